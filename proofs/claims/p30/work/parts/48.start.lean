/-! THE CLAIM OUT OF ONE WALK OF THE LAW'S BODY. Your part is whole_start (and what it stands on); all else here is the same for every law, but numbers. -/
def R_law : String := "PaperStationsLaw"
def lw_P (b : Addr) (xs : List Int32) (args : Array Value) (s : State) : Prop := args = #[.ref b] ∧ s.IntsAt b xs ∧ xs.length ≤ 260 ∧ (Jvm.Cond.and given_1 narrow_1).before args s = true
def lw_Q (_ : Array Value) (s : State) (o : Outcome) (t : State) : Prop := o = .returned (some (.int 1)) ∧ Framed s o t [] 600000 7302250
def lw_Z (below : List Frame) (a : Array Value) (s : State) : State → Prop := fun t => ∃ o, t.status = .running ∧ Ended t below o ∧ lw_Q a s o t
/-- the law's own end, with 1 on the stack, nothing written that was there before, its room as the claim has it -/
theorem lw_ret {p : Program} {l : Launch} {e : Env} {s : State} {m : MethodId} {below : List Frame} {meth : Method} {c : Code} {b : Nat} (hx : p.tables.exec = Jvm.exec) (hb : c.code = code) (hr : meth.sig.returnType = ret) (hlocks : meth.locks = false) {pc : Nat} {H : Heap} {ls : Array Slot} (hdg : decode code pc = .ok (.ireturn, 1)) : W p l e room_1 s m #[Value.ref b] below meth c H [] 600000 7302250 (lw_Z below #[Value.ref b] s) (F0 m pc ls [.int 1]) := by
  intro T hT X
  obtain ⟨fs, hret, hrun, hended, hW, hframe⟩ := X.leave (v := some (.int 1)) (hlocks := hlocks) (fun h => by rw [hr] at h; cases h)
  have hmeth' : T.vm.method? m = some meth := X.method'
  refine ⟨T.setFrames fs, ?_, .returned (some (.int 1)), hrun, hended, rfl, ⟨_, rfl⟩, hW, hframe⟩
  jvm_step X.here [X.here.top, hx, hb, hdg, hmeth', hr, ret, narrow_b1]
  (try refine ⟨rfl, ?_⟩); (try refine ⟨rfl, ?_⟩)
  first | (intro acts; rw [hret _ acts rfl rfl rfl]) | rw [hret _ _ rfl rfl rfl]
  exact Steps.refl _
/-- what holds at the law's entry: the machine, the code, the tables' words (any of lw_tbl by 'hts w (by decide +kernel)'), the script of L ints xs at the cell b, what the Statement gives of the start (any of its parts by flat_of_before) -/
def lw_At (p : Program) (s : State) (m : MethodId) (meth : Method) (c : Code) (b L : Nat) (xs : Nat → Int32) : Prop :=
  p.tables.exec = Jvm.exec ∧ c.code = code ∧ meth.sig.returnType = ret ∧ c.maxLocals = 12 ∧ s.vm.findClass R_law = some m.cls ∧ (∀ w ∈ lw_tbl, w.before #[Value.ref b] s = true) ∧ va_X b L xs s s.heap ∧ b < s.heap.size ∧ meth.locks = false ∧ (Jvm.Cond.and given_1 narrow_1).before #[Value.ref b] s = true

/-! ===== the memories that the constructors leave ===== -/
def pn_M0 : ps_M := fun k i => if k = 85 then (if i = 0 then nI 86 else if i = 1 then nI 113 else if i = 2 then nI 140 else nI 167) else if ps_kd k = 7 then (if i = 2 then -5 else 0) else 0
theorem pn_row85 (u : Nat → Nat) : (fun i : Nat => if i < 4 then some (u (pn_M0 85 i).toNatClampNeg) else none) = (fun i : Nat => if i < 4 then some (u (84 + (2 + 27 * i))) else none) := by
  funext i
  match i with
  | 0 => rfl
  | 1 => rfl
  | 2 => rfl
  | 3 => rfl
  | i + 4 => rw [if_neg (by omega), if_neg (by omega)]
theorem pn_rng : List.range 197 = [0] ++ (List.range 27).map (fun k => 1 + k) ++ (List.range 27).map (fun k => 28 + k) ++ (List.range 27).map (fun k => 55 + k) ++ [82, 83] ++ ([84, 85] ++ (List.range 27).map (fun k => 84 + (2 + k)) ++ (List.range 27).map (fun k => 84 + (29 + k)) ++ (List.range 27).map (fun k => 84 + (56 + k)) ++ (List.range 27).map (fun k => 84 + (83 + k))) ++ [194, 195, 196] := by decide +kernel
set_option maxRecDepth 100000 in
theorem pn_days : ∀ b : Nat, (b = 1 ∨ b = 28 ∨ b = 55 ∨ b = 86 ∨ b = 113 ∨ b = 140 ∨ b = 167) → ∀ o : Nat, o < 27 → ps_kd (b + o) = ps_kD o ∧ b + o ≠ 85 := by
  intro b hb
  rcases hb with rfl | rfl | rfl | rfl | rfl | rfl | rfl <;> decide +kernel
theorem pn_m0 {k : Nat} (h : k ≠ 85) : pn_M0 k = fun i => if ps_kd k = 7 then (if i = 2 then -5 else 0) else 0 := by
  funext i; simp [pn_M0, h]
/-- a day's cells, as made -/
def pn_dc (Z : va_G × Nat × (Nat → ClassId)) (u : Nat → Nat) (o : Nat) : va_E := match ps_kD o with
  | 2 => .inr (2, [.int 0, .int 0, .int 0, .ref (u 1), .ref (u 14)])
  | 3 => ps_rw (fun i => if i < 6 then some (u (2 + 2 * i)) else none) (Z.2.2 2) 6
  | 4 => pn_s4 (u (o + 1))
  | 5 => pn_ia Z 15
  | 6 => ps_rw (fun i => if i < 12 then some (u (15 + i)) else none) (Z.2.2 3) 12
  | _ => pn_k1
theorem pn_D_map (Z : va_G × Nat × (Nat → ClassId)) (u : Nat → Nat) : pn_D Z u = (List.range 27).map (fun o => (u o, pn_dc Z u o)) := rfl
theorem pn_kD_cases : ∀ o : Nat, o < 27 → (ps_kD o = 2 ∧ o = 0) ∨ (ps_kD o = 3 ∧ o = 1) ∨ ps_kD o = 4 ∨ ps_kD o = 5 ∨ (ps_kD o = 6 ∧ o = 14) ∨ ps_kD o = 7 := by decide +kernel
theorem pn_dayof (Z : va_G × Nat × (Nat → ClassId)) (u : Nat → Nat) (b : Nat) (hb : b = 1 ∨ b = 28 ∨ b = 55 ∨ b = 86 ∨ b = 113 ∨ b = 140 ∨ b = 167) : (List.range 27).map (fun o => (u (b + o), ps_cf Z.2.2 u pn_M0 (b + o))) = pn_D Z (fun k => u (b + k)) := by
  rw [pn_D_map]
  apply List.map_congr_left
  intro o ho
  have ho : o < 27 := List.mem_range.mp ho
  obtain ⟨h1, h2⟩ := pn_days b hb o ho
  have h3 := pn_m0 h2
  congr 1
  rcases pn_kD_cases o ho with ⟨h, rfl⟩ | ⟨h, rfl⟩ | h | h | ⟨h, rfl⟩ | h
  · rw [ps_cf_2 (h1.trans h)]
    simp [pn_dc, h, ps_fD, show pn_M0 b = _ from h3, show ps_kd b = _ from h1]
  · rw [ps_cf_3 (h1.trans h)]
    simp only [pn_dc, h]
    congr 1
    funext i
    rw [show b + 1 + 1 + 2 * i = b + (2 + 2 * i) by omega]
  · rw [ps_cf_4 (h1.trans h)]
    simp [pn_dc, h, ps_fS, h3, h1, Nat.add_assoc]
  · rw [ps_cf_5 (h1.trans h)]
    simp [pn_dc, h, h3, h1]
  · rw [ps_cf_6 (h1.trans h)]
    simp only [pn_dc, h]
    congr 1
    funext i
    rw [show b + 14 + 1 + i = b + (15 + i) by omega]
  · rw [ps_cf_7 (h1.trans h)]
    simp [pn_dc, h, ps_fK, h3, h1]
theorem pn_dayH (Z : va_G × Nat × (Nat → ClassId)) (u : Nat → Nat) (b : Nat) (hb : 84 + b = 86 ∨ 84 + b = 113 ∨ 84 + b = 140 ∨ 84 + b = 167) : (List.range 27).map (fun o => (u (84 + (b + o)), ps_cf Z.2.2 u pn_M0 (84 + (b + o)))) = pn_D Z (fun k => u (84 + (b + k))) := by
  have h := pn_dayof Z u (84 + b) (by omega)
  simpa [Nat.add_assoc] using h
theorem pn_wc (D : va_G) (b0 : Nat) (cid : Nat → ClassId) (u : Nat → Nat) : (List.range 197).map (fun k => (u k, ps_cf cid u pn_M0 k)) = pn_P (D, b0, cid) u := by
  have h85 : ps_cf cid u pn_M0 85 = ps_rw (fun i : Nat => if i < 4 then some (u (84 + (2 + 27 * i))) else none) (cid 4) 4 := by
    rw [ps_cf_9 (by decide : ps_kd 85 = 9), pn_row85]
  rw [pn_rng]
  simp only [List.map_append, List.map_map]
  have d1 := pn_dayof (D, b0, cid) u 1 (by omega)
  have d2 := pn_dayof (D, b0, cid) u 28 (by omega)
  have d3 := pn_dayof (D, b0, cid) u 55 (by omega)
  have d4 := pn_dayH (D, b0, cid) u 2 (by omega)
  have d5 := pn_dayH (D, b0, cid) u 29 (by omega)
  have d6 := pn_dayH (D, b0, cid) u 56 (by omega)
  have d7 := pn_dayH (D, b0, cid) u 83 (by omega)
  show ((((((_ ++ (List.range 27).map (fun o => (u (1 + o), ps_cf cid u pn_M0 (1 + o)))) ++ (List.range 27).map (fun o => (u (28 + o), ps_cf cid u pn_M0 (28 + o)))) ++ (List.range 27).map (fun o => (u (55 + o), ps_cf cid u pn_M0 (55 + o)))) ++ _) ++ ((((_ ++ (List.range 27).map (fun o => (u (84 + (2 + o)), ps_cf cid u pn_M0 (84 + (2 + o))))) ++ (List.range 27).map (fun o => (u (84 + (29 + o)), ps_cf cid u pn_M0 (84 + (29 + o))))) ++ (List.range 27).map (fun o => (u (84 + (56 + o)), ps_cf cid u pn_M0 (84 + (56 + o))))) ++ (List.range 27).map (fun o => (u (84 + (83 + o)), ps_cf cid u pn_M0 (84 + (83 + o)))))) ++ _) = _
  rw [show (List.range 27).map (fun o => (u (1 + o), ps_cf cid u pn_M0 (1 + o))) = _ from d1, show (List.range 27).map (fun o => (u (28 + o), ps_cf cid u pn_M0 (28 + o))) = _ from d2, show (List.range 27).map (fun o => (u (55 + o), ps_cf cid u pn_M0 (55 + o))) = _ from d3, show (List.range 27).map (fun o => (u (84 + (2 + o)), ps_cf cid u pn_M0 (84 + (2 + o)))) = _ from d4, show (List.range 27).map (fun o => (u (84 + (29 + o)), ps_cf cid u pn_M0 (84 + (29 + o)))) = _ from d5, show (List.range 27).map (fun o => (u (84 + (56 + o)), ps_cf cid u pn_M0 (84 + (56 + o)))) = _ from d6, show (List.range 27).map (fun o => (u (84 + (83 + o)), ps_cf cid u pn_M0 (84 + (83 + o)))) = _ from d7]
  have e0 : ([0] : List Nat).map (fun k => (u k, ps_cf cid u pn_M0 k)) = [(u 0, .inr (5, [.ref (u 1), .ref (u 28), .ref (u 55), .int 0, .ref (u 82), .ref (u 84), .ref (u 194)]))] := rfl
  have e1 : ([82, 83] : List Nat).map (fun k => (u k, ps_cf cid u pn_M0 k)) = pn_S (D, b0, cid) (fun k => u (82 + k)) := rfl
  have e2 : ([84, 85] : List Nat).map (fun k => (u k, ps_cf cid u pn_M0 k)) = [(u (84 + 0), .inr (3, [.ref (u (84 + 1)), .int 0])), (u (84 + 1), ps_rw (fun i : Nat => if i < 4 then some (u (84 + (2 + 27 * i))) else none) (cid 4) 4)] := by
    show [(u 84, ps_cf cid u pn_M0 84), (u 85, ps_cf cid u pn_M0 85)] = _
    rw [h85]
    rfl
  have e3 : ([194, 195, 196] : List Nat).map (fun k => (u k, ps_cf cid u pn_M0 k)) = pn_T (D, b0, cid) (fun k => u (194 + k)) := rfl
  rw [e0, e1, e2, e3]
  rfl
theorem pn_P_congr {Z : va_G × Nat × (Nat → ClassId)} {u v : Nat → Nat} (h : ∀ k, k < 197 → u k = v k) : pn_P Z u = pn_P Z v := by
  unfold pn_P
  rw [h 0 (by omega), h 1 (by omega), h 28 (by omega), h 55 (by omega), h 82 (by omega), h 84 (by omega), h 194 (by omega),
    pn_D_congr (u := fun k => u (1 + k)) (v := fun k => v (1 + k)) (fun k hk => h _ (by omega)), pn_D_congr (u := fun k => u (28 + k)) (v := fun k => v (28 + k)) (fun k hk => h _ (by omega)), pn_D_congr (u := fun k => u (55 + k)) (v := fun k => v (55 + k)) (fun k hk => h _ (by omega)),
    pn_S_congr (u := fun k => u (82 + k)) (v := fun k => v (82 + k)) (fun k hk => h _ (by omega)), pn_H_congr (u := fun k => u (84 + k)) (v := fun k => v (84 + k)) (fun k hk => h _ (by omega)), pn_T_congr (u := fun k => u (194 + k)) (v := fun k => v (194 + k)) (fun k hk => h _ (by omega))]
/-- the cells' addresses with the law's row -/
def pn_u (u : Nat → Nat) (q : Nat) : Nat → Nat := fun k => if k = 197 then q else u k
theorem pn_g0 : pn_M0 197 = (fun _ => 0) := rfl
theorem pn_wc1 (D : va_G) (b0 : Nat) (cid : Nat → ClassId) (u : Nat → Nat) (q : Nat) : ps_wc (D, b0, cid, pn_u u q, []) pn_M0 = pn_P (D, b0, cid) u ++ [(q, pn_ia (D, b0, cid) 6)] := by
  show (List.range 198).map (fun k => (pn_u u q k, ps_cf cid (pn_u u q) pn_M0 k)) ++ [] = _
  rw [List.append_nil, List.range_succ (n := 197), List.map_append, pn_wc D b0 cid (pn_u u q), pn_P_congr (u := pn_u u q) (v := u) (fun k hk => if_neg (by omega))]
  congr 1
/-! ===== the first memory: no hour, no station, no clerk, nothing kept ===== -/
theorem pn_dy {gv : Nat → Int32} : DI pn_M0 1 0 0 0 gv := by
  refine ⟨⟨⟨rfl, rfl, rfl⟩, by omega, by omega, by omega⟩, fun s hs => ⟨fun z => absurd z (Nat.not_lt_zero _), fun _ => ?_⟩, fun c hc => ⟨fun z => absurd z (Nat.not_lt_zero _), fun _ => ?_⟩⟩
  · rcases (show s = 0 ∨ s = 1 ∨ s = 2 ∨ s = 3 ∨ s = 4 ∨ s = 5 by omega) with rfl | rfl | rfl | rfl | rfl | rfl <;> exact ⟨fun j _ _ => rfl, fun t _ => rfl⟩
  · rcases (show c = 0 ∨ c = 1 ∨ c = 2 ∨ c = 3 ∨ c = 4 ∨ c = 5 ∨ c = 6 ∨ c = 7 ∨ c = 8 ∨ c = 9 ∨ c = 10 ∨ c = 11 by omega) with rfl | rfl | rfl | rfl | rfl | rfl | rfl | rfl | rfl | rfl | rfl | rfl <;> exact ⟨rfl, rfl, rfl, rfl, rfl, rfl⟩
def pn_p0 : Nat → Nat := fun i => if i = 0 then 86 else if i = 1 then 113 else if i = 2 then 140 else 167
theorem pn_hp : HP pn_p0 := by
  constructor
  · intro i hi
    rcases (show i = 0 ∨ i = 1 ∨ i = 2 ∨ i = 3 by omega) with rfl | rfl | rfl | rfl <;> decide
  · intro i j hi hj
    rcases (show i = 0 ∨ i = 1 ∨ i = 2 ∨ i = 3 by omega) with rfl | rfl | rfl | rfl <;> rcases (show j = 0 ∨ j = 1 ∨ j = 2 ∨ j = 3 by omega) with rfl | rfl | rfl | rfl <;> decide
theorem pn_st : ST pn_M0 0 (fun _ => pn_M0) False pn_M0 := by
  refine ⟨⟨by omega, pn_p0, pn_hp, rfl, fun i hi => ?_, fun i hi => absurd hi (Nat.not_lt_zero _)⟩, fun z => z.elim, fun _ => rfl⟩
  rcases (show i = 0 ∨ i = 1 ∨ i = 2 ∨ i = 3 by omega) with rfl | rfl | rfl | rfl <;> rfl
theorem law_from {Z : va_G × Nat × (Nat → ClassId)} {X : ps_X Unit} (C : ps_C (pn_Y Z []) (pn_cs X 0 0) cL_law RL (some .boolean) 7 158 12) (hmc : 600000 ≤ (ps_R X).cells) (hms : 7302250 ≤ (ps_R X).slots) (hxc : ps_cells X = 600000) (hxs : ps_slots X = 7302250) (hao : pn_ao (ps_s X)) {b L : Nat} {xs : Nat → Int32} (hX : va_X b L xs (ps_s X) (ps_s X).heap ∧ b < (ps_s X).heap.size ∧ ¬ Z.2.1 ≤ b) (hL : L ≤ 260) (RT : ∀ E : ps_E, E.2.1 = Z.2.1 → ∀ (M : ps_M) (pc : Nat) (lv : List (Nat × Value)), decode cL_law pc = .ok (.ireturn, 1) → ps_G (ps_Yc E) X () pc lv [.int 1] M) : ps_G (pn_Y Z []) (pn_cs X 0 0) () 0 [(0, .ref b)] [] [] := by
  obtain ⟨D, b0, cid⟩ := Z
  refine gn_new C 3 dL_law_0 rfl 5 hinX5 tyX5_ok lk_L_14 lkn_X5 lki_X5 rfl (fs := [.null, .null, .null, .int 0, .null, .null, .null]) (fun j hj => by rcases (show j = 0 ∨ j = 1 ∨ j = 2 ∨ j = 3 ∨ j = 4 ∨ j = 5 ∨ j = 6 by omega) with rfl | rfl | rfl | rfl | rfl | rfl | rfl <;> rfl) 1 7 rfl rfl (Nat.le_trans (Nat.le_of_ble_eq_true rfl) hmc) (Nat.le_trans (Nat.le_of_ble_eq_true rfl) hms) (fun q0 => ?_)
  have C1 := pn_C 1 7 C (Nat.le_trans (Nat.le_of_ble_eq_true rfl) hmc) (Nat.le_trans (Nat.le_of_ble_eq_true rfl) hms)
  refine gw_dup C1 4 dL_law_3 rfl rfl ?_
  refine gn_ctor C1 7 dL_law_4 rfl yc_X5 lk_L_96 (ct_X5_init (l := ps_l X) (Z := (D, b0, cid))) [] rfl (Nat.le_of_ble_eq_true rfl) (Nat.le_of_ble_eq_true rfl) (Nat.le_of_ble_eq_true rfl) hao 197 1975 rfl rfl (Nat.le_trans (Nat.le_of_ble_eq_true rfl) hmc) (Nat.le_trans (Nat.le_of_ble_eq_true rfl) hms) (fun u hu => ?_)
  subst hu
  have C2 := pn_C 197 1975 C (Nat.le_trans (Nat.le_of_ble_eq_true rfl) hmc) (Nat.le_trans (Nat.le_of_ble_eq_true rfl) hms)
  refine gw_astore_n C2 8 dL_law_7 rfl [(0, .ref b), (1, .ref (u 0))] [1, 0] (by decide) rfl ?_
  refine gw_bipush C2 10 dL_law_8 (v := 6) (by decide) rfl ?_
  refine gn_newi C2 12 dL_law_10 rfl 6 (by decide) rfl (by decide) 198 1981 rfl rfl (Nat.le_trans (Nat.le_of_ble_eq_true rfl) hmc) (Nat.le_trans (Nat.le_of_ble_eq_true rfl) hms) (fun q1 => ?_)
  have C3 := pn_C 198 1981 C (Nat.le_trans (Nat.le_of_ble_eq_true rfl) hmc) (Nat.le_trans (Nat.le_of_ble_eq_true rfl) hms)
  refine gw_astore_n C3 13 dL_law_12 rfl [(0, .ref b), (1, .ref (u 0)), (2, .ref q1)] [1, 2, 0] (by decide) rfl ?_
  obtain ⟨hx, hb, hml, hnL, hown, hts, hr, hlk, hK, hb0, hfr, hlo, hce, hsl⟩ := C
  obtain ⟨l1, l2⟩ := l_law hL (xs := xs) pn_st pn_dy pn_g0
  let X2 : ps_X (Int32 × ps_M) := (ps_p X, ps_l X, ps_e X, ps_R X, ps_s X, ps_m X, ps_args X, ps_below X, ps_meth X, ps_c X, ps_cells X, ps_slots X, ps_nL X, fun r t => r.1 = 1 → ps_Qf X () t)
  have C' : ps_C (ps_Yc (D, b0, cid, pn_u u q1, [])) X2 cL_law RL (some .boolean) 7 158 12 := ⟨hx, hb, hml, hnL, hown, hts, hr, hlk, hK, hb0, hfr, hlo, by show ps_cells X ≤ _; rw [hxc]; exact hmc, by show ps_slots X ≤ _; rw [hxs]; exact hms⟩
  have key := bw_L_law C' (fun v M pc lv hd hn => ?_) (b := b) (L := L) (xs := xs) hX hL pn_M0 l2
  · intro H locs ls hP hD hS hl
    have e1 := pn_wc1 D b0 cid u q1
    have hP : va_P D vwCl ([] ++ (([] ++ pn_P (D, b0, cid) u) ++ [(q1, pn_ia (D, b0, cid) 6)])) H := hP
    have hD : va_D (fun q => b0 ≤ q) ([] ++ (([] ++ pn_P (D, b0, cid) u) ++ [(q1, pn_ia (D, b0, cid) 6)])) := hD
    rw [List.nil_append, List.nil_append] at hP hD
    rw [← e1] at hP hD
    have k2 := key H locs ls hP hD hS hl
    refine W.widen (k := ps_cells X) (n := ps_slots X) (by rw [hxc]; exact Nat.le_of_ble_eq_true rfl) (by rw [hxs]; exact Nat.le_of_ble_eq_true rfl) ?_
    intro T hT XX
    obtain ⟨t, a, h⟩ := k2 T hT XX
    exact ⟨t, a, h l1⟩
  · intro H locs ls hP hD hS hl
    by_cases hv : v = 1
    · subst hv
      have k2 := RT (D, b0, cid, pn_u u q1, []) rfl M pc lv hd H locs ls hP hD hS hl
      intro T hT XX
      obtain ⟨t, a, h⟩ := k2 T hT XX
      exact ⟨t, a, fun _ => h⟩
    · intro T hT XX
      exact ⟨T.setTop _, Steps.refl _, fun h => absurd h hv⟩
theorem pn_obj {C : String} {s : State} {args : Array Value} (h : (Cond.arrayOver (.object C)).before args s = true) : va_AO C s ∧ ∃ cA : ClassId, ArrOfT s cA (.object C) ∧ va_RA s cA (.object C) := by
  obtain ⟨comp, c, k, h1, -, h3, h4, h5⟩ := Cond.arrayOver_spec h
  exact ⟨va_AO.of h, c, fun n z => ⟨fun k h => (by cases h), k, h3, comp, h4⟩, k, comp, h3, h4, h1, h5⟩
theorem pn_pri {ty : FieldType} (hnot : ∀ C, ty ≠ .object C) {s : State} {args : Array Value} (h : (Cond.arrayClass ty).before args s = true) : ∃ cA : ClassId, ArrOfT s cA ty ∧ va_RA s cA ty := by
  obtain ⟨c, k, comp, h1, h2, h3⟩ := Cond.arrayClass_spec h
  refine ⟨c, fun n z => ⟨fun k h => (by cases h), k, h2, comp, h3⟩, ?_⟩
  cases ty with
  | object C => exact absurd rfl (hnot C)
  | _ => exact h1
theorem whole_start_of {p : Program} {e : Env} {s : State} {m : MethodId} {below : List Frame} {meth : Method} {c : Code} (l : Launch) {b L : Nat} {xs : Nat → Int32} (hL : L ≤ 260) (C0 : lw_At p s m meth c b L xs) : W p l e room_1 s m #[Value.ref b] below meth c s.heap [] 0 0 (lw_Z below #[Value.ref b] s) (entryFrame m ([Value.ref b] : List Value).toArray 12) := by
  obtain ⟨hx, hb, hr, hml, hown, hts, hX, hbl, hlocks, hgv⟩ := C0
  have hT : ∀ w ∈ ps_T, w.before #[Value.ref b] s = true := fun w h => hts w (List.mem_filter.mp h).1
  obtain ⟨c0, i0, k0⟩ := u_known (C := RX0) (T := TX0) (N := 3) (n := 3) hT hinX0 (hT _ lkn_X0)
  obtain ⟨c1, i1, k1⟩ := u_known (C := RX1) (T := TX1) (N := 6) (n := 6) hT hinX1 (hT _ lkn_X1)
  obtain ⟨c2, i2, k2⟩ := u_known (C := RX2) (T := TX2) (N := 5) (n := 5) hT hinX2 (hT _ lkn_X2)
  obtain ⟨c3, i3, k3⟩ := u_known (C := RX3) (T := TX3) (N := 2) (n := 2) hT hinX3 (hT _ lkn_X3)
  obtain ⟨c4, i4, k4⟩ := u_known (C := RX4) (T := TX4) (N := 13) (n := 13) hT hinX4 (hT _ lkn_X4)
  obtain ⟨c5, i5, k5⟩ := u_known (C := RX5) (T := TX5) (N := 7) (n := 7) hT hinX5 (hT _ lkn_X5)
  obtain ⟨dC, dI, hKc⟩ : ∃ (dC : Nat → ClassId) (dI : Nat → Nat → Nat), ∀ (k : Nat) (q : vw_C), vwCl[k]? = some q → u_Kn s q.1 q.2.1 q.2.2 (dC k) (dI k) := by
    refine ⟨fun k => match k with | 0 => c0 | 1 => c1 | 2 => c2 | 3 => c3 | 4 => c4 | _ => c5, fun k => match k with | 0 => i0 | 1 => i1 | 2 => i2 | 3 => i3 | 4 => i4 | _ => i5, ?_⟩
    intro k q hq
    match k, hq with
    | 0, hq => cases hq; exact k0
    | 1, hq => cases hq; exact k1
    | 2, hq => cases hq; exact k2
    | 3, hq => cases hq; exact k3
    | 4, hq => cases hq; exact k4
    | 5, hq => cases hq; exact k5
    | k + 6, hq => simp [vwCl] at hq
  obtain ⟨z0, a0, r0⟩ := pn_pri (ty := .int) (fun C h => by cases h) (hT _ lkj_ai)
  obtain ⟨z1, a1, r1⟩ := pn_pri (ty := .char) (fun C h => by cases h) (hT _ lkj_ac)
  obtain ⟨o2, z2, a2, r2⟩ := pn_obj (C := "PaperStations$Station") (hts _ (List.mem_of_getElem? (i := 33) (by decide +kernel)))
  obtain ⟨o3, z3, a3, r3⟩ := pn_obj (C := "PaperStations$Clerk") (hts _ (List.mem_of_getElem? (i := 96) (by decide +kernel)))
  obtain ⟨o4, z4, a4, r4⟩ := pn_obj (C := "PaperStations$Day") (hts _ (List.mem_of_getElem? (i := 160) (by decide +kernel)))
  obtain ⟨cid, hcid⟩ : ∃ cid : Nat → ClassId, ∀ (k : Nat) (q : ClassId × FieldType), (ps_tys cid)[k]? = some q → ArrOfT s q.1 q.2 ∧ va_RA s q.1 q.2 := by
    refine ⟨fun k => match k with | 0 => z0 | 1 => z1 | 2 => z2 | 3 => z3 | _ => z4, ?_⟩
    intro k q hq
    match k, hq with
    | 0, hq => cases hq; exact ⟨a0, r0⟩
    | 1, hq => cases hq; exact ⟨a1, r1⟩
    | 2, hq => cases hq; exact ⟨a2, r2⟩
    | 3, hq => cases hq; exact ⟨a3, r3⟩
    | 4, hq => cases hq; exact ⟨a4, r4⟩
    | k + 5, hq => simp [ps_tys] at hq
  have hK : va_K (dC, dI) vwCl (ps_tys cid) s := ⟨hKc, hcid⟩
  have key := law_from (Z := ((dC, dI), s.heap.size, cid)) (X := (p, l, e, room_1, s, m, #[Value.ref b], below, meth, c, 600000, 7302250, 12, fun _ => lw_Z below #[Value.ref b] s)) ⟨hx, hb, hml, rfl, hown, hT, hr, hlocks, hK, Nat.le_refl _, Nat.le_of_ble_eq_true rfl, Nat.le_of_ble_eq_true rfl, Nat.zero_le _, Nat.zero_le _⟩ (Nat.le_of_ble_eq_true rfl) (Nat.le_of_ble_eq_true rfl) rfl rfl ⟨o2, o3, o4⟩ (b := b) (L := L) (xs := xs) ⟨hX, hbl, Nat.not_le.mpr hbl⟩ hL ?_
  · rw [lg_entry_eq]
    exact key s.heap [] _ (fun k q h => (by cases h)) ⟨fun i j p q h => (by cases h), fun k q h => (by cases h)⟩ va_S.rf (lv_entry ([.ref b]) (n := 12) (Nat.le_of_ble_eq_true rfl))
  · intro E hE M pc lv hdg H locs ls hP hD hS hl
    refine va_forget (fun q hq => ?_) ?_
    · have := hS.2.2 q hq
      exact Nat.le_trans (Nat.le_of_eq hE.symm) this
    · exact lw_ret hx hb hr hlocks hdg
