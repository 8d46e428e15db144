/-! ===== the law's cell: the script is read ===== -/
def pl_scr {ρ μ : Type} (Y : ps_Y μ) (X : ps_X ρ) (b L : Nat) (xs : Nat → Int32) : Prop := va_X b L xs (ps_s X) (ps_s X).heap ∧ b < (ps_s X).heap.size ∧ ¬ Y.2.1 ≤ b
theorem gl_sld {μ ρ : Type} {Y : ps_Y μ} {X : ps_X ρ} {cc : ByteArray} {own : String} {ret : Option FieldType} {f n nL : Nat} (C : ps_C Y X cc own ret f n nL) {r : ρ} {pc : Nat} {lv : List (Nat × Value)} {st : List Value} {M : μ} (pc' : Nat) (hd : decode cc pc = .ok (.iaload, 1)) (hp : pc + 1 = pc') {b L : Nat} {xs : Nat → Int32} (hX : pl_scr Y X b L xs) {i : Int32} (hi : vp_in i L) (k : ps_G Y X r pc' lv (.int (xs i.toNatClampNeg) :: st) M) : ps_G Y X r pc lv (.int i :: .ref b :: st) M := by
  subst hp
  intro H locs ls hP hD hS hl
  obtain ⟨hx, hb, hml, hnL, hown, hts, hr, hlk, hK, hb0, hfr, hlo, hce, hsl⟩ := C
  exact va_sld hx hb hX.1 hX.2.1 hX.2.2 hS hi hd (k H locs ls hP hD hS hl)
theorem gl_slen {μ ρ : Type} {Y : ps_Y μ} {X : ps_X ρ} {cc : ByteArray} {own : String} {ret : Option FieldType} {f n nL : Nat} (C : ps_C Y X cc own ret f n nL) {r : ρ} {pc : Nat} {lv : List (Nat × Value)} {st : List Value} {M : μ} (pc' : Nat) (hd : decode cc pc = .ok (.arraylength, 1)) (hp : pc + 1 = pc') {b L : Nat} {xs : Nat → Int32} (hX : pl_scr Y X b L xs) (k : ps_G Y X r pc' lv (.int (nI L) :: st) M) : ps_G Y X r pc lv (.ref b :: st) M := by
  subst hp
  intro H locs ls hP hD hS hl
  obtain ⟨hx, hb, hml, hnL, hown, hts, hr, hlk, hK, hb0, hfr, hlo, hce, hsl⟩ := C
  exact va_slen hx hb hX.1 hX.2.1 hX.2.2 hS hd (k H locs ls hP hD hS hl)
def pl_ce (L : Nat) (xs : Nat → Int32) (k : Int32) : Int32 := if nI L ≤ k then (763049417 : Int32) * (k + (3 : Int32)) else xs k.toNatClampNeg
def pl_Pre {μ : Type} (Y : ps_Y μ) (M : μ) (b L : Nat) (xs : Nat → Int32) (k : Int32) : Array Value → State → Prop := va_Pc [.ref b, .int k] (fun U => Y.2.1 ≤ U.heap.size ∧ ps_Wd Y M U ∧ va_X b L xs U U.heap ∧ b < U.heap.size)
def pl_Post {μ : Type} (Y : ps_Y μ) (M : μ) (L : Nat) (xs : Nat → Int32) (k : Int32) : Array Value → State → Outcome → State → Prop := va_Qi (fun (x : Int32) (_ : Unit) => x = pl_ce L xs k) (fun _ t => ps_Wd Y M t) (fun q => Y.2.1 ≤ q)
set_option maxHeartbeats 4000000 in
theorem ct_cell {μ : Type} {Y : ps_Y μ} {l : Launch} {M : μ} {b L : Nat} {xs : Nat → Int32} {k : Int32} (hnb : ¬ Y.2.1 ≤ b) (hL : L ≤ 260) (hk : ¬ k < 0) : Met l yL_cell (.code yL_cell cL_cell 2 (some .int) :: ps_T) { frames := 0, cells := 0, slots := 0, locals := 0 } (pl_Pre Y M b L xs k) (pl_Post Y M L xs k) 0 0 (fun q => Y.2.1 ≤ q) := by
  refine Met.ofW (cc := cL_cell) (maxL := 2) (ret := some .int) (by decide) rfl ?_
  intro p e s m args below meth c s₁ B hml hv
  obtain ⟨rfl, hb0, ⟨hP, hK, hD⟩, hXX, hbl⟩ := hv
  have hts := atoms_spec (ws := .code yL_cell cL_cell 2 (some .int) :: ps_T) B.pre
  have hfc : s.vm.findClass RL = some m.cls := findClass_of_methodNamed B.named
  have hr := B.returns
  have hlk := B.notSynchronized
  have hx := B.exec
  have hb := B.bytes
  have C : ps_C Y ((p, l, e, { frames := 0, cells := 0, slots := 0, locals := 0 }, s, m, [Value.ref b, Value.int k].toArray, below, meth, c, 0, 0, 2, fun _ => MQ below (pl_Post Y M L xs k) [Value.ref b, Value.int k].toArray s 0 0 (fun q => Y.2.1 ≤ q)) : ps_X (Int32 × μ)) cL_cell RL (some .int) 0 0 2 :=
    ⟨hx, hb, hml, rfl, hfc, fun w h => hts w (List.mem_cons_of_mem _ h), hr, hlk, hK, hb0, Nat.le_refl _, Nat.le_refl _, Nat.le_refl _, Nat.le_refl _⟩
  have hX : pl_scr Y ((p, l, e, { frames := 0, cells := 0, slots := 0, locals := 0 }, s, m, [Value.ref b, Value.int k].toArray, below, meth, c, 0, 0, 2, fun _ => MQ below (pl_Post Y M L xs k) [Value.ref b, Value.int k].toArray s 0 0 (fun q => Y.2.1 ≤ q)) : ps_X (Int32 × μ)) b L xs := ⟨hXX, hbl, hnb⟩
  have RT : ∀ (v : Int32), v = pl_ce L xs k → ∀ (lv : List (Nat × Value)), ps_G Y ((p, l, e, { frames := 0, cells := 0, slots := 0, locals := 0 }, s, m, [Value.ref b, Value.int k].toArray, below, meth, c, 0, 0, 2, fun _ => MQ below (pl_Post Y M L xs k) [Value.ref b, Value.int k].toArray s 0 0 (fun q => Y.2.1 ≤ q)) : ps_X (Int32 × μ)) (v, M) 18 lv [.int v] M := by
    intro v hv lv H locs ls hP hD hS hl
    exact W.zret hx hb hr rfl (fun t ht hW => ⟨⟨v, (), rfl, hv, by rw [ht]; exact hP, va_K.moved hW.alike hK, hD⟩, hS.F ht⟩) hS.2.2 dL_cell_18
  have key : ps_G Y ((p, l, e, { frames := 0, cells := 0, slots := 0, locals := 0 }, s, m, [Value.ref b, Value.int k].toArray, below, meth, c, 0, 0, 2, fun _ => MQ below (pl_Post Y M L xs k) [Value.ref b, Value.int k].toArray s 0 0 (fun q => Y.2.1 ≤ q)) : ps_X (Int32 × μ)) (pl_ce L xs k, M) 0 [(0, .ref b), (1, .int k)] [] M := by
    refine gw_iload_n C 1 dL_cell_0 1 rfl rfl ?_
    refine gw_aload_n C 2 dL_cell_1 0 rfl rfl ?_
    refine gl_slen C 3 dL_cell_2 rfl hX ?_
    have hce : pl_ce L xs k = if nI L ≤ k then (763049417 : Int32) * (k + (3 : Int32)) else xs k.toNatClampNeg := rfl
    rw [hce]
    refine gw_ic_geP C 12 6 dL_cell_3 (by decide) rfl (fun c3 => ?_) (fun c3 => ?_)
    · refine gw_ldc C 14 dL_cell_12 lk_L_7 rfl ?_
      refine gw_iload_n C 15 dL_cell_14 1 rfl rfl ?_
      refine gw_iconst C 16 dL_cell_15 (v := 3) (by decide) rfl ?_
      refine gw_iadd C 17 dL_cell_16 rfl ?_
      refine gw_imul C 18 dL_cell_17 rfl ?_
      exact RT _ (by rw [hce, if_pos c3]) _
    · have hin : vp_in k L := by
        rcases pk_ix k (show L < 2 ^ 31 by omega) with g | g | ⟨j, hj, rfl⟩
        · exact absurd g hk
        · exact absurd g c3
        · exact vp_in_nI hj (by omega)
      refine gw_aload_n C 7 dL_cell_6 0 rfl rfl ?_
      refine gw_iload_n C 8 dL_cell_7 1 rfl rfl ?_
      refine gl_sld C 9 dL_cell_8 rfl hX hin ?_
      refine gw_goto C 18 dL_cell_9 (by decide) ?_
      exact RT _ (by rw [hce, if_neg c3]) _
  rw [lg_entry_eq]
  exact key s.heap [] _ hP hD va_S.rf (lv_entry [Value.ref b, Value.int k] (n := 2) (Nat.le_refl _))
theorem gl_cell {μ ρ : Type} {Y : ps_Y μ} {X : ps_X ρ} {cc : ByteArray} {own : String} {ret : Option FieldType} {f n nL : Nat} (C : ps_C Y X cc own ret f n nL) {r : ρ} {pc : Nat} {lv : List (Nat × Value)} {st : List Value} {M : μ} (pc' : Nat) {z : Nat} (hd : decode cc pc = .ok (.invokestatic z, 3)) (hp : pc + 3 = pc') (hl0 : Cond.methodLink own z yL_cell ∈ ps_T) {b L : Nat} {xs : Nat → Int32} (hX : pl_scr Y X b L xs) (hL : L ≤ 260) {k : Int32} (hk : ¬ k < 0) (rest : List Value) (hst : st = .int k :: .ref b :: rest) (hcat : (rest.map fun v => v.category).sum ≤ 8) (hf : 0 + 1 ≤ f) (hn : 8 + (2 + 11) + 0 ≤ n) (kk : ps_G Y X r pc' lv (.int (pl_ce L xs k) :: rest) M) : ps_G Y X r pc lv st M := by
  subst hp; subst hst
  intro H locs ls hP hD hS hl
  obtain ⟨hx, hb, hml, hnL, hown, hts, hr, hlk, hK, hb0, hfr, hlo, hce, hsl⟩ := C
  have hz : Y.2.1 ≤ H.size := Nat.le_trans hb0 hS.1
  have hbH : H[b]? = (ps_s X).heap[b]? := hS.2.1 b hX.2.1 hX.2.2
  have hXH : va_X b L xs (ps_s X) H := va_X.kept hX.1 hbH
  have hbl : b < H.size := Nat.lt_of_lt_of_le hX.2.1 hS.1
  refine va_calli (va_runS (As := [.ref b, .int k]) (rest := rest) (Ts := ps_T) ⟨hx, hb, hml, hown, hts⟩ (ct_cell (Y := Y) (l := ps_l X) (M := M) (b := b) (L := L) (xs := xs) (k := k) hX.2.2 hL hk) (va_cwS 2 hts (ps_gS yv_L_cell hl0) rfl rfl rfl yv_L_cell.2 ⟨Nat.le_trans hf hfr, Nat.le_trans hn hlo⟩) ⟨?_, ?_⟩ rfl rfl hl.1 rfl (lv_room hcat) hd ⟨hce, hsl⟩) hS (fun q _ h => h) (fun q h => h) (fun x u t H1 locs1 ht hvm hw hB hz1 hk1 hS1 => ?_)
  · intro a U g mk q
    obtain ⟨q0, q1, ⟨qP, qK, qD⟩, qX, qb⟩ := q
    exact ⟨q0, q1, ⟨qP, va_K.moved (u := U) (U := U.calling g mk a) (Vm.Alike.refl U.vm) qK, qD⟩, va_X.moved (u := U) (U := U.calling g mk a) (Vm.Alike.refl U.vm) qX, qb⟩
  · intro U hU hW
    exact ⟨rfl, by rw [hU]; exact hz, ⟨by rw [hU]; exact hP, va_K.moved hW.alike hK, hD⟩, va_X.moved hW.alike (by rw [hU]; exact hXH), by rw [hU]; exact hbl⟩
  · obtain ⟨hP1, hK1, hD1⟩ := hB
    rw [ht] at hP1
    subst hw
    exact kk H1 locs1 ls hP1 hD1 hS1 hl
