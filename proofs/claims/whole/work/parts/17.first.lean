/-! THE CLAIM OUT OF ONE WALK OF THE LAW'S BODY. Your part is whole_start (and what it stands on); all else here is the same for every law, but numbers. -/
def R_law : String := "PaperStationsLaw"
def lw_P (b : Addr) (xs : List Int32) (args : Array Value) (s : State) : Prop := args = #[.ref b] ∧ s.IntsAt b xs ∧ xs.length ≤ 2048 ∧ (Jvm.Cond.and given_1 narrow_1).before args s = true
def lw_Q (_ : Array Value) (s : State) (o : Outcome) (t : State) : Prop := o = .returned (some (.int 1)) ∧ Framed s o t [] 600000 7302250
def lw_Z (below : List Frame) (a : Array Value) (s : State) : State → Prop := fun t => ∃ o, t.status = .running ∧ Ended t below o ∧ lw_Q a s o t
/-- the law's own end, with 1 on the stack, nothing written that was there before, its room as the claim has it -/
theorem lw_ret {p : Program} {l : Launch} {e : Env} {s : State} {m : MethodId} {below : List Frame} {meth : Method} {c : Code} {b : Nat} (hx : p.tables.exec = Jvm.exec) (hb : c.code = code) (hr : meth.sig.returnType = ret) (hlocks : meth.locks = false) {pc : Nat} {H : Heap} {ls : Array Slot} (hdg : decode code pc = .ok (.ireturn, 1)) : W p l e room_1 s m #[Value.ref b] below meth c H [] 600000 7302250 (lw_Z below #[Value.ref b] s) (F0 m pc ls [.int 1]) := by
  intro T hT X
  obtain ⟨fs, hret, hrun, hended, hW, hframe⟩ := X.leave (v := some (.int 1)) (hlocks := hlocks) (fun h => by rw [hr] at h; cases h)
  have hmeth' : T.vm.method? m = some meth := X.method'
  refine ⟨T.setFrames fs, ?_, .returned (some (.int 1)), hrun, hended, rfl, ⟨_, rfl⟩, hW, hframe⟩
  jvm_step X.here [X.here.top, hx, hb, hdg, hmeth', hr, ret, narrow_b1]
  (try refine ⟨rfl, ?_⟩); (try refine ⟨rfl, ?_⟩)
  first | (intro acts; rw [hret _ acts rfl rfl rfl]) | rw [hret _ _ rfl rfl rfl]
  exact Steps.refl _
/-- what holds at the law's entry: the machine, the code, the tables' words (any of lw_tbl by 'hts w (by decide +kernel)'), the script of L ints xs at the cell b, what the Statement gives of the start (any of its parts by flat_of_before) -/
def lw_At (p : Program) (s : State) (m : MethodId) (meth : Method) (c : Code) (b L : Nat) (xs : Nat → Int32) : Prop :=
  p.tables.exec = Jvm.exec ∧ c.code = code ∧ meth.sig.returnType = ret ∧ c.maxLocals = 4 ∧ s.vm.findClass R_law = some m.cls ∧ (∀ w ∈ lw_tbl, w.before #[Value.ref b] s = true) ∧ va_X b L xs s s.heap ∧ b < s.heap.size ∧ meth.locks = false ∧ (Jvm.Cond.and given_1 narrow_1).before #[Value.ref b] s = true

/-! ===== the memories that the constructors leave ===== -/
def pn_M0 : ps_M := fun k i => if k = 85 then (if i = 0 then nI 86 else if i = 1 then nI 113 else if i = 2 then nI 140 else nI 167) else if ps_kd k = 7 then (if i = 2 then -5 else 0) else 0
def pn_N0 : ps_M := fun _ _ => 0
theorem pn_wm (Q : pl_Q) : pl_L2 Q pn_N0 = pn_M (Q.1, Q.2.1, Q.2.2.1) Q.2.2.2.2 := rfl
theorem pn_row85 (u : Nat → Nat) : (fun i : Nat => if i < 4 then some (u (pn_M0 85 i).toNatClampNeg) else none) = (fun i : Nat => if i < 4 then some (u (84 + (2 + 27 * i))) else none) := by
  funext i
  match i with
  | 0 => rfl
  | 1 => rfl
  | 2 => rfl
  | 3 => rfl
  | i + 4 => rw [if_neg (by omega), if_neg (by omega)]
theorem pn_rng : List.range 197 = [0] ++ (List.range 27).map (fun k => 1 + k) ++ (List.range 27).map (fun k => 28 + k) ++ (List.range 27).map (fun k => 55 + k) ++ [82, 83] ++ ([84, 85] ++ (List.range 27).map (fun k => 84 + (2 + k)) ++ (List.range 27).map (fun k => 84 + (29 + k)) ++ (List.range 27).map (fun k => 84 + (56 + k)) ++ (List.range 27).map (fun k => 84 + (83 + k))) ++ [194, 195, 196] := by decide +kernel
set_option maxRecDepth 100000 in
theorem pn_days : ∀ b : Nat, (b = 1 ∨ b = 28 ∨ b = 55 ∨ b = 86 ∨ b = 113 ∨ b = 140 ∨ b = 167) → ∀ o : Nat, o < 27 → ps_kd (b + o) = ps_kD o ∧ b + o ≠ 85 := by
  intro b hb
  rcases hb with rfl | rfl | rfl | rfl | rfl | rfl | rfl <;> decide +kernel
theorem pn_m0 {k : Nat} (h : k ≠ 85) : pn_M0 k = fun i => if ps_kd k = 7 then (if i = 2 then -5 else 0) else 0 := by
  funext i; simp [pn_M0, h]
/-- a day's cells, as made -/
def pn_dc (Z : va_G × Nat × (Nat → ClassId)) (u : Nat → Nat) (o : Nat) : va_E := match ps_kD o with
  | 2 => .inr (2, [.int 0, .int 0, .int 0, .ref (u 1), .ref (u 14)])
  | 3 => ps_rw (fun i => if i < 6 then some (u (2 + 2 * i)) else none) (Z.2.2 2) 6
  | 4 => pn_s4 (u (o + 1))
  | 5 => pn_ia Z 15
  | 6 => ps_rw (fun i => if i < 12 then some (u (15 + i)) else none) (Z.2.2 3) 12
  | _ => pn_k1
theorem pn_D_map (Z : va_G × Nat × (Nat → ClassId)) (u : Nat → Nat) : pn_D Z u = (List.range 27).map (fun o => (u o, pn_dc Z u o)) := rfl
theorem pn_kD_cases : ∀ o : Nat, o < 27 → (ps_kD o = 2 ∧ o = 0) ∨ (ps_kD o = 3 ∧ o = 1) ∨ ps_kD o = 4 ∨ ps_kD o = 5 ∨ (ps_kD o = 6 ∧ o = 14) ∨ ps_kD o = 7 := by decide +kernel
theorem pn_dayof (Z : va_G × Nat × (Nat → ClassId)) (u : Nat → Nat) (b : Nat) (hb : b = 1 ∨ b = 28 ∨ b = 55 ∨ b = 86 ∨ b = 113 ∨ b = 140 ∨ b = 167) : (List.range 27).map (fun o => (u (b + o), ps_cf Z.2.2 u pn_M0 (b + o))) = pn_D Z (fun k => u (b + k)) := by
  rw [pn_D_map]
  apply List.map_congr_left
  intro o ho
  have ho : o < 27 := List.mem_range.mp ho
  obtain ⟨h1, h2⟩ := pn_days b hb o ho
  have h3 := pn_m0 h2
  congr 1
  rcases pn_kD_cases o ho with ⟨h, rfl⟩ | ⟨h, rfl⟩ | h | h | ⟨h, rfl⟩ | h
  · rw [ps_cf_2 (h1.trans h)]
    simp [pn_dc, h, ps_fD, show pn_M0 b = _ from h3, show ps_kd b = _ from h1]
  · rw [ps_cf_3 (h1.trans h)]
    simp only [pn_dc, h]
    congr 1
    funext i
    rw [show b + 1 + 1 + 2 * i = b + (2 + 2 * i) by omega]
  · rw [ps_cf_4 (h1.trans h)]
    simp [pn_dc, h, ps_fS, h3, h1, Nat.add_assoc]
  · rw [ps_cf_5 (h1.trans h)]
    simp [pn_dc, h, h3, h1]
  · rw [ps_cf_6 (h1.trans h)]
    simp only [pn_dc, h]
    congr 1
    funext i
    rw [show b + 14 + 1 + i = b + (15 + i) by omega]
  · rw [ps_cf_7 (h1.trans h)]
    simp [pn_dc, h, ps_fK, h3, h1]
theorem pn_dayH (Z : va_G × Nat × (Nat → ClassId)) (u : Nat → Nat) (b : Nat) (hb : 84 + b = 86 ∨ 84 + b = 113 ∨ 84 + b = 140 ∨ 84 + b = 167) : (List.range 27).map (fun o => (u (84 + (b + o)), ps_cf Z.2.2 u pn_M0 (84 + (b + o)))) = pn_D Z (fun k => u (84 + (b + k))) := by
  have h := pn_dayof Z u (84 + b) (by omega)
  simpa [Nat.add_assoc] using h
theorem pn_wc (Q : pl_Q) : pl_L1 Q pn_M0 = pn_P (Q.1, Q.2.1, Q.2.2.1) Q.2.2.2.1 := by
  obtain ⟨D, b0, cid, u, v⟩ := Q
  have h85 : ps_cf cid u pn_M0 85 = ps_rw (fun i : Nat => if i < 4 then some (u (84 + (2 + 27 * i))) else none) (cid 4) 4 := by
    rw [ps_cf_9 (by decide : ps_kd 85 = 9), pn_row85]
  show (List.range 197).map (fun k => (u k, ps_cf cid u pn_M0 k)) = pn_P (D, b0, cid) u
  rw [pn_rng]
  simp only [List.map_append, List.map_map]
  have d1 := pn_dayof (D, b0, cid) u 1 (by omega)
  have d2 := pn_dayof (D, b0, cid) u 28 (by omega)
  have d3 := pn_dayof (D, b0, cid) u 55 (by omega)
  have d4 := pn_dayH (D, b0, cid) u 2 (by omega)
  have d5 := pn_dayH (D, b0, cid) u 29 (by omega)
  have d6 := pn_dayH (D, b0, cid) u 56 (by omega)
  have d7 := pn_dayH (D, b0, cid) u 83 (by omega)
  show ((((((_ ++ (List.range 27).map (fun o => (u (1 + o), ps_cf cid u pn_M0 (1 + o)))) ++ (List.range 27).map (fun o => (u (28 + o), ps_cf cid u pn_M0 (28 + o)))) ++ (List.range 27).map (fun o => (u (55 + o), ps_cf cid u pn_M0 (55 + o)))) ++ _) ++ ((((_ ++ (List.range 27).map (fun o => (u (84 + (2 + o)), ps_cf cid u pn_M0 (84 + (2 + o))))) ++ (List.range 27).map (fun o => (u (84 + (29 + o)), ps_cf cid u pn_M0 (84 + (29 + o))))) ++ (List.range 27).map (fun o => (u (84 + (56 + o)), ps_cf cid u pn_M0 (84 + (56 + o))))) ++ (List.range 27).map (fun o => (u (84 + (83 + o)), ps_cf cid u pn_M0 (84 + (83 + o)))))) ++ _) = _
  rw [show (List.range 27).map (fun o => (u (1 + o), ps_cf cid u pn_M0 (1 + o))) = _ from d1, show (List.range 27).map (fun o => (u (28 + o), ps_cf cid u pn_M0 (28 + o))) = _ from d2, show (List.range 27).map (fun o => (u (55 + o), ps_cf cid u pn_M0 (55 + o))) = _ from d3, show (List.range 27).map (fun o => (u (84 + (2 + o)), ps_cf cid u pn_M0 (84 + (2 + o)))) = _ from d4, show (List.range 27).map (fun o => (u (84 + (29 + o)), ps_cf cid u pn_M0 (84 + (29 + o)))) = _ from d5, show (List.range 27).map (fun o => (u (84 + (56 + o)), ps_cf cid u pn_M0 (84 + (56 + o)))) = _ from d6, show (List.range 27).map (fun o => (u (84 + (83 + o)), ps_cf cid u pn_M0 (84 + (83 + o)))) = _ from d7]
  have e0 : ([0] : List Nat).map (fun k => (u k, ps_cf cid u pn_M0 k)) = [(u 0, .inr (5, [.ref (u 1), .ref (u 28), .ref (u 55), .int 0, .ref (u 82), .ref (u 84), .ref (u 194)]))] := rfl
  have e1 : ([82, 83] : List Nat).map (fun k => (u k, ps_cf cid u pn_M0 k)) = pn_S (D, b0, cid) (fun k => u (82 + k)) := rfl
  have e2 : ([84, 85] : List Nat).map (fun k => (u k, ps_cf cid u pn_M0 k)) = [(u (84 + 0), .inr (3, [.ref (u (84 + 1)), .int 0])), (u (84 + 1), ps_rw (fun i : Nat => if i < 4 then some (u (84 + (2 + 27 * i))) else none) (cid 4) 4)] := by
    show [(u 84, ps_cf cid u pn_M0 84), (u 85, ps_cf cid u pn_M0 85)] = _
    rw [h85]
    rfl
  have e3 : ([194, 195, 196] : List Nat).map (fun k => (u k, ps_cf cid u pn_M0 k)) = pn_T (D, b0, cid) (fun k => u (194 + k)) := rfl
  rw [e0, e1, e2, e3]
  rfl
