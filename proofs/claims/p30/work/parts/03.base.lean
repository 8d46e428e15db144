/-! ===== THE MEMORY: a cell's number, a slot's number, an int; references never change (but the history's row of days, whose ints are cell numbers) ===== -/
abbrev ps_M : Type := Nat → Nat → Int32
def ps_st (M : ps_M) (k i : Nat) (v : Int32) : ps_M := fun a b => if b = i then (if a = k then v else M a b) else M a b
def ps_cpy (M : ps_M) (a sp b dp n : Nat) : ps_M := fun x i => if x = b then va_cpy (M a) (M b) sp dp n i else M x i
theorem ps_st_ne {M : ps_M} {k i : Nat} {v : Int32} {j : Nat} (h : j ≠ k) : ps_st M k i v j = M j := by
  funext b; simp [ps_st, h]
theorem ps_st_self {M : ps_M} {k i : Nat} {v : Int32} : ps_st M k i v k = upd (M k) i v := by
  funext b; simp [ps_st, upd]
theorem ps_cpy_ne {M : ps_M} {a sp b dp n j : Nat} (h : j ≠ b) : ps_cpy M a sp b dp n j = M j := by
  funext i; simp [ps_cpy, h]
theorem ps_cpy_self {M : ps_M} {a sp b dp n : Nat} : ps_cpy M a sp b dp n b = va_cpy (M a) (M b) sp dp n := by
  funext i; simp [ps_cpy]
/-! environments: classes and slots, the least address, array classes, addresses of the cells, the rest of the world -/
abbrev ps_E : Type := va_G × Nat × (Nat → ClassId) × (Nat → Nat) × va_W
abbrev ps_Y (μ : Type) : Type := va_G × Nat × (Nat → ClassId) × (μ → va_W)
abbrev ps_X (ρ : Type) : Type := Program × Launch × Env × Room × State × MethodId × Array Value × List Frame × Method × Code × Nat × Nat × Nat × (ρ → State → Prop)
abbrev ps_p {ρ : Type} (X : ps_X ρ) : Program := X.1
abbrev ps_l {ρ : Type} (X : ps_X ρ) : Launch := X.2.1
abbrev ps_e {ρ : Type} (X : ps_X ρ) : Env := X.2.2.1
abbrev ps_R {ρ : Type} (X : ps_X ρ) : Room := X.2.2.2.1
abbrev ps_s {ρ : Type} (X : ps_X ρ) : State := X.2.2.2.2.1
abbrev ps_m {ρ : Type} (X : ps_X ρ) : MethodId := X.2.2.2.2.2.1
abbrev ps_args {ρ : Type} (X : ps_X ρ) : Array Value := X.2.2.2.2.2.2.1
abbrev ps_below {ρ : Type} (X : ps_X ρ) : List Frame := X.2.2.2.2.2.2.2.1
abbrev ps_meth {ρ : Type} (X : ps_X ρ) : Method := X.2.2.2.2.2.2.2.2.1
abbrev ps_c {ρ : Type} (X : ps_X ρ) : Code := X.2.2.2.2.2.2.2.2.2.1
abbrev ps_cells {ρ : Type} (X : ps_X ρ) : Nat := X.2.2.2.2.2.2.2.2.2.2.1
abbrev ps_slots {ρ : Type} (X : ps_X ρ) : Nat := X.2.2.2.2.2.2.2.2.2.2.2.1
abbrev ps_nL {ρ : Type} (X : ps_X ρ) : Nat := X.2.2.2.2.2.2.2.2.2.2.2.2.1
abbrev ps_Qf {ρ : Type} (X : ps_X ρ) : ρ → State → Prop := X.2.2.2.2.2.2.2.2.2.2.2.2.2
def ps_tys (cid : Nat → ClassId) : List (ClassId × FieldType) := [(cid 0, .int), (cid 1, .char), (cid 2, .object "PaperStations$Station"), (cid 3, .object "PaperStations$Clerk"), (cid 4, .object "PaperStations$Day")]
/-- the machine at pc with these locals, this stack, and the memory M in the heap, comes to the end that r names -/
def ps_G {μ ρ : Type} (Y : ps_Y μ) (X : ps_X ρ) (r : ρ) (pc : Nat) (lv : List (Nat × Value)) (st : List Value) (M : μ) : Prop :=
  ∀ (H : Heap) (locs : List Loc) (ls : Array Slot), va_P Y.1 vwCl (Y.2.2.2 M) H → va_D (fun q => Y.2.1 ≤ q) (Y.2.2.2 M) → va_S (fun q => Y.2.1 ≤ q) (ps_s X).heap H locs → lv_has ls (ps_nL X) lv →
    W (ps_p X) (ps_l X) (ps_e X) (ps_R X) (ps_s X) (ps_m X) (ps_args X) (ps_below X) (ps_meth X) (ps_c X) H locs (ps_cells X) (ps_slots X) (ps_Qf X r) (F0 (ps_m X) pc ls st)
/-- what holds all through a method's body -/
def ps_C {μ ρ : Type} (Y : ps_Y μ) (X : ps_X ρ) (cc : ByteArray) (own : String) (ret : Option FieldType) (f n nL : Nat) : Prop :=
  (ps_p X).tables.exec = Jvm.exec ∧ (ps_c X).code = cc ∧ (ps_c X).maxLocals = ps_nL X ∧ ps_nL X = nL ∧ (ps_s X).vm.findClass own = some (ps_m X).cls ∧ (∀ w ∈ ps_T, w.before (ps_args X) (ps_s X) = true) ∧ (ps_meth X).sig.returnType = ret ∧ (ps_meth X).locks = false ∧
  va_K Y.1 vwCl (ps_tys Y.2.2.1) (ps_s X) ∧ Y.2.1 ≤ (ps_s X).heap.size ∧ f ≤ (ps_R X).frames ∧ n ≤ (ps_R X).locals ∧ ps_cells X ≤ (ps_R X).cells ∧ ps_slots X ≤ (ps_R X).slots
def ps_Wd {μ : Type} (Y : ps_Y μ) (M : μ) (t : State) : Prop := va_P Y.1 vwCl (Y.2.2.2 M) t.heap ∧ va_K Y.1 vwCl (ps_tys Y.2.2.1) t ∧ va_D (fun q => Y.2.1 ≤ q) (Y.2.2.2 M)
/-- returns of an int (with a memory), of nothing, of a reference -/
def ps_RI {μ : Type} (Y : ps_Y μ) (X : ps_X (Int32 × μ)) (cc : ByteArray) (ty : FieldType) : Prop := ∀ (v : Int32) (M : μ) (pc : Nat) (lv : List (Nat × Value)), decode cc pc = .ok (.ireturn, 1) → narrow ty (.int v) = .int v → ps_G Y X (v, M) pc lv [.int v] M
def ps_RV {μ : Type} (Y : ps_Y μ) (X : ps_X μ) (cc : ByteArray) : Prop := ∀ (M : μ) (pc : Nat) (lv : List (Nat × Value)), decode cc pc = .ok (.return_, 1) → ps_G Y X M pc lv [] M
def ps_RJ {μ : Type} (Y : ps_Y μ) (X : ps_X (Int64 × μ)) (cc : ByteArray) : Prop := ∀ (v : Int64) (M : μ) (pc : Nat) (lv : List (Nat × Value)), decode cc pc = .ok (.lreturn, 1) → ps_G Y X (v, M) pc lv [.long v] M
def ps_RR {μ : Type} (Y : ps_Y μ) (X : ps_X (Nat × μ)) (cc : ByteArray) : Prop := ∀ (v : Nat) (M : μ) (pc : Nat) (lv : List (Nat × Value)), decode cc pc = .ok (.areturn, 1) → ps_G Y X (v, M) pc lv [.ref v] M
/-- contracts -/
def ps_CI {μ : Type} (Y : ps_Y μ) (l : Launch) (y : MethodName) (cc : ByteArray) (nL : Nat) (ret : Option FieldType) (f n : Nat) (as : List Value) (M : μ) (r : Int32 × μ) : Prop :=
  Met l y (.code y cc nL ret :: ps_T) { frames := f, cells := 0, slots := 0, locals := n } (va_Pc as (fun U => Y.2.1 ≤ U.heap.size ∧ ps_Wd Y M U)) (va_Qi (fun (x : Int32) (_ : Unit) => x = r.1) (fun _ t => ps_Wd Y r.2 t) (fun q => Y.2.1 ≤ q)) 0 0 (fun q => Y.2.1 ≤ q)
def ps_CV {μ : Type} (Y : ps_Y μ) (l : Launch) (y : MethodName) (cc : ByteArray) (nL : Nat) (f n : Nat) (as : List Value) (M : μ) (r : μ) : Prop :=
  Met l y (.code y cc nL none :: ps_T) { frames := f, cells := 0, slots := 0, locals := n } (va_Pc as (fun U => Y.2.1 ≤ U.heap.size ∧ ps_Wd Y M U)) (va_Qv (fun _ : Unit => True) (fun _ t => ps_Wd Y r t) (fun q => Y.2.1 ≤ q)) 0 0 (fun q => Y.2.1 ≤ q)
def ps_CR {μ : Type} (Y : ps_Y μ) (l : Launch) (y : MethodName) (cc : ByteArray) (nL : Nat) (ret : Option FieldType) (f n : Nat) (as : List Value) (M : μ) (r : Nat × μ) : Prop :=
  Met l y (.code y cc nL ret :: ps_T) { frames := f, cells := 0, slots := 0, locals := n } (va_Pc as (fun U => Y.2.1 ≤ U.heap.size ∧ ps_Wd Y M U)) (va_Qr (fun _ : Unit => True) (fun _ a t => a = r.1 ∧ ps_Wd Y r.2 t) (fun q => Y.2.1 ≤ q)) 0 0 (fun q => Y.2.1 ≤ q)
def ps_CJ {μ : Type} (Y : ps_Y μ) (l : Launch) (y : MethodName) (cc : ByteArray) (nL : Nat) (ret : Option FieldType) (f n : Nat) (as : List Value) (M : μ) (r : Int64 × μ) : Prop :=
  Met l y (.code y cc nL ret :: ps_T) { frames := f, cells := 0, slots := 0, locals := n } (va_Pc as (fun U => Y.2.1 ≤ U.heap.size ∧ ps_Wd Y M U)) (va_Ql (fun (x : Int64) (_ : Unit) => x = r.1) (fun _ t => ps_Wd Y r.2 t) (fun q => Y.2.1 ≤ q)) 0 0 (fun q => Y.2.1 ≤ q)
theorem ps_S0 {A : Nat → Prop} {H0 H : Heap} {locs : List Loc} (h : va_S A H0 H locs) : ∀ q ∈ locs, A q.base := h.2.2

theorem ps_metI {μ : Type} {Y : ps_Y μ} {l : Launch} {y : MethodName} {cc : ByteArray} {nL f n : Nat} {ty : FieldType} {as : List Value} {lv : List (Nat × Value)} {M : μ} {r : (Int32 × μ)} (own : String) (hy : plainName y.cls = true) (hown : y.cls = own) (hlen : (lg_sl as).length ≤ nL) (hlv : lv_args 0 as = lv)
    (k : ∀ X : ps_X (Int32 × μ), ps_l X = l → ps_C Y X cc own (some ty) f n nL → ps_RI Y X cc ty → ps_G Y X r 0 lv [] M) : ps_CI Y l y cc nL (some ty) f n as M r := by
  refine Met.ofW (cc := cc) (maxL := nL) (ret := some ty) hy rfl ?_
  intro p e s m args below meth c s₁ B hml hv
  obtain ⟨rfl, hb0, hP, hK, hD⟩ := hv
  have hts := atoms_spec (ws := .code y cc nL (some ty) :: ps_T) B.pre
  have hfc : s.vm.findClass own = some m.cls := by rw [← hown]; exact findClass_of_methodNamed B.named
  have hr := B.returns
  have hlk := B.notSynchronized
  have hx := B.exec
  have hb := B.bytes
  subst hlv
  have key := k (p, l, e, { frames := f, cells := 0, slots := 0, locals := n }, s, m, as.toArray, below, meth, c, 0, 0, nL, fun z => MQ below (va_Qi (fun (x : Int32) (_ : Unit) => x = z.1) (fun _ t => ps_Wd Y z.2 t) (fun q => Y.2.1 ≤ q)) as.toArray s 0 0 (fun q => Y.2.1 ≤ q)) rfl
    ⟨hx, hb, hml, rfl, hfc, fun w h => hts w (List.mem_cons_of_mem _ h), hr, hlk, hK, hb0, Nat.le_refl _, Nat.le_refl _, Nat.le_refl _, Nat.le_refl _⟩ ?_
  · rw [lg_entry_eq]
    exact key s.heap [] _ hP hD va_S.rf (lv_entry as hlen)
  · intro v M' pc lv' hdg hn H locs ls hP hD hS hl
    exact W.zret hx hb hr hn (fun t ht hW => ⟨⟨v, (), rfl, rfl, by rw [ht]; exact hP, va_K.moved hW.alike hK, hD⟩, hS.F ht⟩) hS.2.2 hdg

theorem ps_metV {μ : Type} {Y : ps_Y μ} {l : Launch} {y : MethodName} {cc : ByteArray} {nL f n : Nat} {as : List Value} {lv : List (Nat × Value)} {M : μ} {r : μ} (own : String) (hy : plainName y.cls = true) (hown : y.cls = own) (hlen : (lg_sl as).length ≤ nL) (hlv : lv_args 0 as = lv)
    (k : ∀ X : ps_X μ, ps_l X = l → ps_C Y X cc own none f n nL → ps_RV Y X cc → ps_G Y X r 0 lv [] M) : ps_CV Y l y cc nL f n as M r := by
  refine Met.ofW (cc := cc) (maxL := nL) (ret := none) hy rfl ?_
  intro p e s m args below meth c s₁ B hml hv
  obtain ⟨rfl, hb0, hP, hK, hD⟩ := hv
  have hts := atoms_spec (ws := .code y cc nL none :: ps_T) B.pre
  have hfc : s.vm.findClass own = some m.cls := by rw [← hown]; exact findClass_of_methodNamed B.named
  have hr := B.returns
  have hlk := B.notSynchronized
  have hx := B.exec
  have hb := B.bytes
  subst hlv
  have key := k (p, l, e, { frames := f, cells := 0, slots := 0, locals := n }, s, m, as.toArray, below, meth, c, 0, 0, nL, fun z => MQ below (va_Qv (fun _ : Unit => True) (fun _ t => ps_Wd Y z t) (fun q => Y.2.1 ≤ q)) as.toArray s 0 0 (fun q => Y.2.1 ≤ q)) rfl
    ⟨hx, hb, hml, rfl, hfc, fun w h => hts w (List.mem_cons_of_mem _ h), hr, hlk, hK, hb0, Nat.le_refl _, Nat.le_refl _, Nat.le_refl _, Nat.le_refl _⟩ ?_
  · rw [lg_entry_eq]
    exact key s.heap [] _ hP hD va_S.rf (lv_entry as hlen)
  · intro M' pc lv' hdg H locs ls hP hD hS hl
    exact W.vret hx hb hr (fun t ht hW => ⟨⟨(), rfl, trivial, by rw [ht]; exact hP, va_K.moved hW.alike hK, hD⟩, hS.F ht⟩) hS.2.2 hdg

theorem ps_metR {μ : Type} {Y : ps_Y μ} {l : Launch} {y : MethodName} {cc : ByteArray} {nL f n : Nat} {ty : FieldType} (hty : (∃ n, ty = .object n) ∨ ∃ t, ty = .array t) {as : List Value} {lv : List (Nat × Value)} {M : μ} {r : (Nat × μ)} (own : String) (hy : plainName y.cls = true) (hown : y.cls = own) (hlen : (lg_sl as).length ≤ nL) (hlv : lv_args 0 as = lv)
    (k : ∀ X : ps_X (Nat × μ), ps_l X = l → ps_C Y X cc own (some ty) f n nL → ps_RR Y X cc → ps_G Y X r 0 lv [] M) : ps_CR Y l y cc nL (some ty) f n as M r := by
  refine Met.ofW (cc := cc) (maxL := nL) (ret := some ty) hy rfl ?_
  intro p e s m args below meth c s₁ B hml hv
  obtain ⟨rfl, hb0, hP, hK, hD⟩ := hv
  have hts := atoms_spec (ws := .code y cc nL (some ty) :: ps_T) B.pre
  have hfc : s.vm.findClass own = some m.cls := by rw [← hown]; exact findClass_of_methodNamed B.named
  have hr := B.returns
  have hlk := B.notSynchronized
  have hx := B.exec
  have hb := B.bytes
  subst hlv
  have key := k (p, l, e, { frames := f, cells := 0, slots := 0, locals := n }, s, m, as.toArray, below, meth, c, 0, 0, nL, fun z => MQ below (va_Qr (fun _ : Unit => True) (fun _ a t => a = z.1 ∧ ps_Wd Y z.2 t) (fun q => Y.2.1 ≤ q)) as.toArray s 0 0 (fun q => Y.2.1 ≤ q)) rfl
    ⟨hx, hb, hml, rfl, hfc, fun w h => hts w (List.mem_cons_of_mem _ h), hr, hlk, hK, hb0, Nat.le_refl _, Nat.le_refl _, Nat.le_refl _, Nat.le_refl _⟩ ?_
  · rw [lg_entry_eq]
    exact key s.heap [] _ hP hD va_S.rf (lv_entry as hlen)
  · intro v M' pc lv' hdg H locs ls hP hD hS hl
    exact W.aret hx hb hr hty (Or.inr ⟨v, rfl⟩) (fun t ht hW => ⟨⟨(), v, rfl, trivial, rfl, by rw [ht]; exact hP, va_K.moved hW.alike hK, hD⟩, hS.F ht⟩) hS.2.2 hdg

theorem ps_metJ {μ : Type} {Y : ps_Y μ} {l : Launch} {y : MethodName} {cc : ByteArray} {nL f n : Nat} {as : List Value} {lv : List (Nat × Value)} {M : μ} {r : (Int64 × μ)} (own : String) (hy : plainName y.cls = true) (hown : y.cls = own) (hlen : (lg_sl as).length ≤ nL) (hlv : lv_args 0 as = lv)
    (k : ∀ X : ps_X (Int64 × μ), ps_l X = l → ps_C Y X cc own (some .long) f n nL → ps_RJ Y X cc → ps_G Y X r 0 lv [] M) : ps_CJ Y l y cc nL (some .long) f n as M r := by
  refine Met.ofW (cc := cc) (maxL := nL) (ret := some .long) hy rfl ?_
  intro p e s m args below meth c s₁ B hml hv
  obtain ⟨rfl, hb0, hP, hK, hD⟩ := hv
  have hts := atoms_spec (ws := .code y cc nL (some .long) :: ps_T) B.pre
  have hfc : s.vm.findClass own = some m.cls := by rw [← hown]; exact findClass_of_methodNamed B.named
  have hr := B.returns
  have hlk := B.notSynchronized
  have hx := B.exec
  have hb := B.bytes
  subst hlv
  have key := k (p, l, e, { frames := f, cells := 0, slots := 0, locals := n }, s, m, as.toArray, below, meth, c, 0, 0, nL, fun z => MQ below (va_Ql (fun (x : Int64) (_ : Unit) => x = z.1) (fun _ t => ps_Wd Y z.2 t) (fun q => Y.2.1 ≤ q)) as.toArray s 0 0 (fun q => Y.2.1 ≤ q)) rfl
    ⟨hx, hb, hml, rfl, hfc, fun w h => hts w (List.mem_cons_of_mem _ h), hr, hlk, hK, hb0, Nat.le_refl _, Nat.le_refl _, Nat.le_refl _, Nat.le_refl _⟩ ?_
  · rw [lg_entry_eq]
    exact key s.heap [] _ hP hD va_S.rf (lv_entry as hlen)
  · intro v M' pc lv' hdg H locs ls hP hD hS hl
    exact W.lret hx hb hr (fun t ht hW => ⟨⟨v, (), rfl, rfl, by rw [ht]; exact hP, va_K.moved hW.alike hK, hD⟩, hS.F ht⟩) hS.2.2 hdg

theorem gw_iconst {μ ρ : Type} {Y : ps_Y μ} {X : ps_X ρ} {cc : ByteArray} {own : String} {ret : Option FieldType} {f n nL : Nat} (C : ps_C Y X cc own ret f n nL) {r : ρ} {pc : Nat} {lv : List (Nat × Value)} {st : List Value} {M : μ} (pc' : Nat) {z : Int} {v : Int32} (hd : decode cc pc = .ok (.iconst z, 1)) (hv : Int32.ofInt z = v) (hp : pc + 1 = pc') (k : ps_G Y X r pc' lv (.int v :: st) M) : ps_G Y X r pc lv st M := by
  subst hp
  intro H locs ls hP hD hS hl
  obtain ⟨hx, hb, hml, hnL, hown, hts, hr, hlk, hK, hb0, hfr, hlo, hce, hsl⟩ := C
  exact lv_iconst hx hb hd hv (k H locs ls hP hD hS hl)
theorem gw_bipush {μ ρ : Type} {Y : ps_Y μ} {X : ps_X ρ} {cc : ByteArray} {own : String} {ret : Option FieldType} {f n nL : Nat} (C : ps_C Y X cc own ret f n nL) {r : ρ} {pc : Nat} {lv : List (Nat × Value)} {st : List Value} {M : μ} (pc' : Nat) {z : Int} {v : Int32} (hd : decode cc pc = .ok (.bipush z, 2)) (hv : (Int8.ofInt z).toInt32 = v) (hp : pc + 2 = pc') (k : ps_G Y X r pc' lv (.int v :: st) M) : ps_G Y X r pc lv st M := by
  subst hp
  intro H locs ls hP hD hS hl
  obtain ⟨hx, hb, hml, hnL, hown, hts, hr, hlk, hK, hb0, hfr, hlo, hce, hsl⟩ := C
  exact lv_bipush hx hb hd hv (k H locs ls hP hD hS hl)
theorem gw_sipush {μ ρ : Type} {Y : ps_Y μ} {X : ps_X ρ} {cc : ByteArray} {own : String} {ret : Option FieldType} {f n nL : Nat} (C : ps_C Y X cc own ret f n nL) {r : ρ} {pc : Nat} {lv : List (Nat × Value)} {st : List Value} {M : μ} (pc' : Nat) {z : Int} {v : Int32} (hd : decode cc pc = .ok (.sipush z, 3)) (hv : (Int16.ofInt z).toInt32 = v) (hp : pc + 3 = pc') (k : ps_G Y X r pc' lv (.int v :: st) M) : ps_G Y X r pc lv st M := by
  subst hp
  intro H locs ls hP hD hS hl
  obtain ⟨hx, hb, hml, hnL, hown, hts, hr, hlk, hK, hb0, hfr, hlo, hce, hsl⟩ := C
  exact lv_sipush hx hb hd hv (k H locs ls hP hD hS hl)
theorem gw_ldc {μ ρ : Type} {Y : ps_Y μ} {X : ps_X ρ} {cc : ByteArray} {own : String} {ret : Option FieldType} {f n nL : Nat} (C : ps_C Y X cc own ret f n nL) {r : ρ} {pc : Nat} {lv : List (Nat × Value)} {st : List Value} {M : μ} (pc' : Nat) {z : Nat} {v : Int32} (hd : decode cc pc = .ok (.ldc z, 2)) (hw : Cond.constant own z v ∈ ps_T) (hp : pc + 2 = pc') (k : ps_G Y X r pc' lv (.int v :: st) M) : ps_G Y X r pc lv st M := by
  subst hp
  intro H locs ls hP hD hS hl
  obtain ⟨hx, hb, hml, hnL, hown, hts, hr, hlk, hK, hb0, hfr, hlo, hce, hsl⟩ := C
  exact lv_ldc hx hb hown (hts _ hw) hd (k H locs ls hP hD hS hl)
theorem gw_iload_n {μ ρ : Type} {Y : ps_Y μ} {X : ps_X ρ} {cc : ByteArray} {own : String} {ret : Option FieldType} {f n nL : Nat} (C : ps_C Y X cc own ret f n nL) {r : ρ} {pc : Nat} {lv : List (Nat × Value)} {st : List Value} {M : μ} (pc' : Nat) {i : Fin 4} {x : Int32} (hd : decode cc pc = .ok (.iload_n i, 1)) (q : Nat) (h : lv[q]? = some ((i : Nat), .int x)) (hp : pc + 1 = pc') (k : ps_G Y X r pc' lv (.int x :: st) M) : ps_G Y X r pc lv st M := by
  subst hp
  intro H locs ls hP hD hS hl
  obtain ⟨hx, hb, hml, hnL, hown, hts, hr, hlk, hK, hb0, hfr, hlo, hce, hsl⟩ := C
  exact lv_iload_n hx hb hd rfl (lv_at hl q h) (k H locs ls hP hD hS hl)
theorem gw_iload {μ ρ : Type} {Y : ps_Y μ} {X : ps_X ρ} {cc : ByteArray} {own : String} {ret : Option FieldType} {f n nL : Nat} (C : ps_C Y X cc own ret f n nL) {r : ρ} {pc : Nat} {lv : List (Nat × Value)} {st : List Value} {M : μ} (pc' : Nat) {i : Nat} {x : Int32} (hd : decode cc pc = .ok (.iload i, 2)) (q : Nat) (h : lv[q]? = some (i, .int x)) (hp : pc + 2 = pc') (k : ps_G Y X r pc' lv (.int x :: st) M) : ps_G Y X r pc lv st M := by
  subst hp
  intro H locs ls hP hD hS hl
  obtain ⟨hx, hb, hml, hnL, hown, hts, hr, hlk, hK, hb0, hfr, hlo, hce, hsl⟩ := C
  exact lv_iload hx hb hd (lv_at hl q h) (k H locs ls hP hD hS hl)
theorem gw_aload_n {μ ρ : Type} {Y : ps_Y μ} {X : ps_X ρ} {cc : ByteArray} {own : String} {ret : Option FieldType} {f n nL : Nat} (C : ps_C Y X cc own ret f n nL) {r : ρ} {pc : Nat} {lv : List (Nat × Value)} {st : List Value} {M : μ} (pc' : Nat) {i : Fin 4} {x : Nat} (hd : decode cc pc = .ok (.aload_n i, 1)) (q : Nat) (h : lv[q]? = some ((i : Nat), .ref x)) (hp : pc + 1 = pc') (k : ps_G Y X r pc' lv (.ref x :: st) M) : ps_G Y X r pc lv st M := by
  subst hp
  intro H locs ls hP hD hS hl
  obtain ⟨hx, hb, hml, hnL, hown, hts, hr, hlk, hK, hb0, hfr, hlo, hce, hsl⟩ := C
  exact lv_aload_n hx hb hd rfl (lv_at hl q h) (k H locs ls hP hD hS hl)
theorem gw_aload {μ ρ : Type} {Y : ps_Y μ} {X : ps_X ρ} {cc : ByteArray} {own : String} {ret : Option FieldType} {f n nL : Nat} (C : ps_C Y X cc own ret f n nL) {r : ρ} {pc : Nat} {lv : List (Nat × Value)} {st : List Value} {M : μ} (pc' : Nat) {i : Nat} {x : Nat} (hd : decode cc pc = .ok (.aload i, 2)) (q : Nat) (h : lv[q]? = some (i, .ref x)) (hp : pc + 2 = pc') (k : ps_G Y X r pc' lv (.ref x :: st) M) : ps_G Y X r pc lv st M := by
  subst hp
  intro H locs ls hP hD hS hl
  obtain ⟨hx, hb, hml, hnL, hown, hts, hr, hlk, hK, hb0, hfr, hlo, hce, hsl⟩ := C
  exact lv_aload hx hb hd (lv_at hl q h) (k H locs ls hP hD hS hl)
theorem gw_iadd {μ ρ : Type} {Y : ps_Y μ} {X : ps_X ρ} {cc : ByteArray} {own : String} {ret : Option FieldType} {f n nL : Nat} (C : ps_C Y X cc own ret f n nL) {r : ρ} {pc : Nat} {lv : List (Nat × Value)} {st : List Value} {M : μ} (pc' : Nat) {x y : Int32} (hd : decode cc pc = .ok (.iadd, 1)) (hp : pc + 1 = pc') (k : ps_G Y X r pc' lv (.int (x + y) :: st) M) : ps_G Y X r pc lv (.int y :: .int x :: st) M := by
  subst hp
  intro H locs ls hP hD hS hl
  obtain ⟨hx, hb, hml, hnL, hown, hts, hr, hlk, hK, hb0, hfr, hlo, hce, hsl⟩ := C
  exact lv_iadd hx hb hd (k H locs ls hP hD hS hl)
theorem gw_isub {μ ρ : Type} {Y : ps_Y μ} {X : ps_X ρ} {cc : ByteArray} {own : String} {ret : Option FieldType} {f n nL : Nat} (C : ps_C Y X cc own ret f n nL) {r : ρ} {pc : Nat} {lv : List (Nat × Value)} {st : List Value} {M : μ} (pc' : Nat) {x y : Int32} (hd : decode cc pc = .ok (.isub, 1)) (hp : pc + 1 = pc') (k : ps_G Y X r pc' lv (.int (x - y) :: st) M) : ps_G Y X r pc lv (.int y :: .int x :: st) M := by
  subst hp
  intro H locs ls hP hD hS hl
  obtain ⟨hx, hb, hml, hnL, hown, hts, hr, hlk, hK, hb0, hfr, hlo, hce, hsl⟩ := C
  exact lv_isub hx hb hd (k H locs ls hP hD hS hl)
theorem gw_imul {μ ρ : Type} {Y : ps_Y μ} {X : ps_X ρ} {cc : ByteArray} {own : String} {ret : Option FieldType} {f n nL : Nat} (C : ps_C Y X cc own ret f n nL) {r : ρ} {pc : Nat} {lv : List (Nat × Value)} {st : List Value} {M : μ} (pc' : Nat) {x y : Int32} (hd : decode cc pc = .ok (.imul, 1)) (hp : pc + 1 = pc') (k : ps_G Y X r pc' lv (.int (x * y) :: st) M) : ps_G Y X r pc lv (.int y :: .int x :: st) M := by
  subst hp
  intro H locs ls hP hD hS hl
  obtain ⟨hx, hb, hml, hnL, hown, hts, hr, hlk, hK, hb0, hfr, hlo, hce, hsl⟩ := C
  exact lv_imul hx hb hd (k H locs ls hP hD hS hl)
theorem gw_iand {μ ρ : Type} {Y : ps_Y μ} {X : ps_X ρ} {cc : ByteArray} {own : String} {ret : Option FieldType} {f n nL : Nat} (C : ps_C Y X cc own ret f n nL) {r : ρ} {pc : Nat} {lv : List (Nat × Value)} {st : List Value} {M : μ} (pc' : Nat) {x y : Int32} (hd : decode cc pc = .ok (.iand, 1)) (hp : pc + 1 = pc') (k : ps_G Y X r pc' lv (.int (x &&& y) :: st) M) : ps_G Y X r pc lv (.int y :: .int x :: st) M := by
  subst hp
  intro H locs ls hP hD hS hl
  obtain ⟨hx, hb, hml, hnL, hown, hts, hr, hlk, hK, hb0, hfr, hlo, hce, hsl⟩ := C
  exact lv_iand hx hb hd (k H locs ls hP hD hS hl)
theorem gw_ior {μ ρ : Type} {Y : ps_Y μ} {X : ps_X ρ} {cc : ByteArray} {own : String} {ret : Option FieldType} {f n nL : Nat} (C : ps_C Y X cc own ret f n nL) {r : ρ} {pc : Nat} {lv : List (Nat × Value)} {st : List Value} {M : μ} (pc' : Nat) {x y : Int32} (hd : decode cc pc = .ok (.ior, 1)) (hp : pc + 1 = pc') (k : ps_G Y X r pc' lv (.int (x ||| y) :: st) M) : ps_G Y X r pc lv (.int y :: .int x :: st) M := by
  subst hp
  intro H locs ls hP hD hS hl
  obtain ⟨hx, hb, hml, hnL, hown, hts, hr, hlk, hK, hb0, hfr, hlo, hce, hsl⟩ := C
  exact lv_ior hx hb hd (k H locs ls hP hD hS hl)
theorem gw_ishl {μ ρ : Type} {Y : ps_Y μ} {X : ps_X ρ} {cc : ByteArray} {own : String} {ret : Option FieldType} {f n nL : Nat} (C : ps_C Y X cc own ret f n nL) {r : ρ} {pc : Nat} {lv : List (Nat × Value)} {st : List Value} {M : μ} (pc' : Nat) {x y : Int32} (hd : decode cc pc = .ok (.ishl, 1)) (hp : pc + 1 = pc') (k : ps_G Y X r pc' lv (.int (x <<< (y &&& 31)) :: st) M) : ps_G Y X r pc lv (.int y :: .int x :: st) M := by
  subst hp
  intro H locs ls hP hD hS hl
  obtain ⟨hx, hb, hml, hnL, hown, hts, hr, hlk, hK, hb0, hfr, hlo, hce, hsl⟩ := C
  exact lv_ishl hx hb hd (k H locs ls hP hD hS hl)
theorem gw_ishr {μ ρ : Type} {Y : ps_Y μ} {X : ps_X ρ} {cc : ByteArray} {own : String} {ret : Option FieldType} {f n nL : Nat} (C : ps_C Y X cc own ret f n nL) {r : ρ} {pc : Nat} {lv : List (Nat × Value)} {st : List Value} {M : μ} (pc' : Nat) {x y : Int32} (hd : decode cc pc = .ok (.ishr, 1)) (hp : pc + 1 = pc') (k : ps_G Y X r pc' lv (.int (x >>> (y &&& 31)) :: st) M) : ps_G Y X r pc lv (.int y :: .int x :: st) M := by
  subst hp
  intro H locs ls hP hD hS hl
  obtain ⟨hx, hb, hml, hnL, hown, hts, hr, hlk, hK, hb0, hfr, hlo, hce, hsl⟩ := C
  exact lv_ishr hx hb hd (k H locs ls hP hD hS hl)
theorem gw_idiv {μ ρ : Type} {Y : ps_Y μ} {X : ps_X ρ} {cc : ByteArray} {own : String} {ret : Option FieldType} {f n nL : Nat} (C : ps_C Y X cc own ret f n nL) {r : ρ} {pc : Nat} {lv : List (Nat × Value)} {st : List Value} {M : μ} (pc' : Nat) {x y : Int32} (hd : decode cc pc = .ok (.idiv, 1)) (hne : ¬ y = 0) (hp : pc + 1 = pc') (k : ps_G Y X r pc' lv (.int (x / y) :: st) M) : ps_G Y X r pc lv (.int y :: .int x :: st) M := by
  subst hp
  intro H locs ls hP hD hS hl
  obtain ⟨hx, hb, hml, hnL, hown, hts, hr, hlk, hK, hb0, hfr, hlo, hce, hsl⟩ := C
  exact lv_idiv hx hb hd hne (k H locs ls hP hD hS hl)
theorem gw_irem {μ ρ : Type} {Y : ps_Y μ} {X : ps_X ρ} {cc : ByteArray} {own : String} {ret : Option FieldType} {f n nL : Nat} (C : ps_C Y X cc own ret f n nL) {r : ρ} {pc : Nat} {lv : List (Nat × Value)} {st : List Value} {M : μ} (pc' : Nat) {x y : Int32} (hd : decode cc pc = .ok (.irem, 1)) (hne : ¬ y = 0) (hp : pc + 1 = pc') (k : ps_G Y X r pc' lv (.int (x - x / y * y) :: st) M) : ps_G Y X r pc lv (.int y :: .int x :: st) M := by
  subst hp
  intro H locs ls hP hD hS hl
  obtain ⟨hx, hb, hml, hnL, hown, hts, hr, hlk, hK, hb0, hfr, hlo, hce, hsl⟩ := C
  exact lv_irem hx hb hd hne (k H locs ls hP hD hS hl)
theorem gw_ldc2 {μ ρ : Type} {Y : ps_Y μ} {X : ps_X ρ} {cc : ByteArray} {own : String} {ret : Option FieldType} {f n nL : Nat} (C : ps_C Y X cc own ret f n nL) {r : ρ} {pc : Nat} {lv : List (Nat × Value)} {st : List Value} {M : μ} (pc' : Nat) {z : Nat} {v : Int64} (hd : decode cc pc = .ok (.ldc2_w z, 3)) (hw : Cond.constantLong own z v ∈ ps_T) (hp : pc + 3 = pc') (k : ps_G Y X r pc' lv (.long v :: st) M) : ps_G Y X r pc lv st M := by
  subst hp
  intro H locs ls hP hD hS hl
  obtain ⟨hx, hb, hml, hnL, hown, hts, hr, hlk, hK, hb0, hfr, hlo, hce, hsl⟩ := C
  exact lv_ldc2 hx hb hown (hts _ hw) hd (k H locs ls hP hD hS hl)
theorem gw_lload_n {μ ρ : Type} {Y : ps_Y μ} {X : ps_X ρ} {cc : ByteArray} {own : String} {ret : Option FieldType} {f n nL : Nat} (C : ps_C Y X cc own ret f n nL) {r : ρ} {pc : Nat} {lv : List (Nat × Value)} {st : List Value} {M : μ} (pc' : Nat) {i : Fin 4} {x : Int64} (hd : decode cc pc = .ok (.lload_n i, 1)) (q : Nat) (h : lv[q]? = some ((i : Nat), .long x)) (hp : pc + 1 = pc') (k : ps_G Y X r pc' lv (.long x :: st) M) : ps_G Y X r pc lv st M := by
  subst hp
  intro H locs ls hP hD hS hl
  obtain ⟨hx, hb, hml, hnL, hown, hts, hr, hlk, hK, hb0, hfr, hlo, hce, hsl⟩ := C
  exact lv_lload_n hx hb hd rfl (lv_at hl q h) (k H locs ls hP hD hS hl)
theorem gw_lload {μ ρ : Type} {Y : ps_Y μ} {X : ps_X ρ} {cc : ByteArray} {own : String} {ret : Option FieldType} {f n nL : Nat} (C : ps_C Y X cc own ret f n nL) {r : ρ} {pc : Nat} {lv : List (Nat × Value)} {st : List Value} {M : μ} (pc' : Nat) {i : Nat} {x : Int64} (hd : decode cc pc = .ok (.lload i, 2)) (q : Nat) (h : lv[q]? = some (i, .long x)) (hp : pc + 2 = pc') (k : ps_G Y X r pc' lv (.long x :: st) M) : ps_G Y X r pc lv st M := by
  subst hp
  intro H locs ls hP hD hS hl
  obtain ⟨hx, hb, hml, hnL, hown, hts, hr, hlk, hK, hb0, hfr, hlo, hce, hsl⟩ := C
  exact lv_lload hx hb hd (lv_at hl q h) (k H locs ls hP hD hS hl)
theorem gw_ladd {μ ρ : Type} {Y : ps_Y μ} {X : ps_X ρ} {cc : ByteArray} {own : String} {ret : Option FieldType} {f n nL : Nat} (C : ps_C Y X cc own ret f n nL) {r : ρ} {pc : Nat} {lv : List (Nat × Value)} {st : List Value} {M : μ} (pc' : Nat) {x y : Int64} (hd : decode cc pc = .ok (.ladd, 1)) (hp : pc + 1 = pc') (k : ps_G Y X r pc' lv (.long (x + y) :: st) M) : ps_G Y X r pc lv (.long y :: .long x :: st) M := by
  subst hp
  intro H locs ls hP hD hS hl
  obtain ⟨hx, hb, hml, hnL, hown, hts, hr, hlk, hK, hb0, hfr, hlo, hce, hsl⟩ := C
  exact lv_ladd hx hb hd (k H locs ls hP hD hS hl)
theorem gw_lmul {μ ρ : Type} {Y : ps_Y μ} {X : ps_X ρ} {cc : ByteArray} {own : String} {ret : Option FieldType} {f n nL : Nat} (C : ps_C Y X cc own ret f n nL) {r : ρ} {pc : Nat} {lv : List (Nat × Value)} {st : List Value} {M : μ} (pc' : Nat) {x y : Int64} (hd : decode cc pc = .ok (.lmul, 1)) (hp : pc + 1 = pc') (k : ps_G Y X r pc' lv (.long (x * y) :: st) M) : ps_G Y X r pc lv (.long y :: .long x :: st) M := by
  subst hp
  intro H locs ls hP hD hS hl
  obtain ⟨hx, hb, hml, hnL, hown, hts, hr, hlk, hK, hb0, hfr, hlo, hce, hsl⟩ := C
  exact lv_lmul hx hb hd (k H locs ls hP hD hS hl)
theorem gw_i2l {μ ρ : Type} {Y : ps_Y μ} {X : ps_X ρ} {cc : ByteArray} {own : String} {ret : Option FieldType} {f n nL : Nat} (C : ps_C Y X cc own ret f n nL) {r : ρ} {pc : Nat} {lv : List (Nat × Value)} {st : List Value} {M : μ} (pc' : Nat) {x : Int32} (hd : decode cc pc = .ok (.i2l, 1)) (hp : pc + 1 = pc') (k : ps_G Y X r pc' lv (.long x.toInt64 :: st) M) : ps_G Y X r pc lv (.int x :: st) M := by
  subst hp
  intro H locs ls hP hD hS hl
  obtain ⟨hx, hb, hml, hnL, hown, hts, hr, hlk, hK, hb0, hfr, hlo, hce, hsl⟩ := C
  exact lv_i2l hx hb hd rfl (k H locs ls hP hD hS hl)
theorem gw_lcmp {μ ρ : Type} {Y : ps_Y μ} {X : ps_X ρ} {cc : ByteArray} {own : String} {ret : Option FieldType} {f n nL : Nat} (C : ps_C Y X cc own ret f n nL) {r : ρ} {pc : Nat} {lv : List (Nat × Value)} {st : List Value} {M : μ} (pc' : Nat) {x y : Int64} (hd : decode cc pc = .ok (.lcmp, 1)) (hp : pc + 1 = pc') (k : ps_G Y X r pc' lv (.int (lg_cmp x y) :: st) M) : ps_G Y X r pc lv (.long y :: .long x :: st) M := by
  subst hp
  intro H locs ls hP hD hS hl
  obtain ⟨hx, hb, hml, hnL, hown, hts, hr, hlk, hK, hb0, hfr, hlo, hce, hsl⟩ := C
  exact W.lcmp hx hb hd (k H locs ls hP hD hS hl)
theorem gw_ineg {μ ρ : Type} {Y : ps_Y μ} {X : ps_X ρ} {cc : ByteArray} {own : String} {ret : Option FieldType} {f n nL : Nat} (C : ps_C Y X cc own ret f n nL) {r : ρ} {pc : Nat} {lv : List (Nat × Value)} {st : List Value} {M : μ} (pc' : Nat) {x : Int32} (hd : decode cc pc = .ok (.ineg, 1)) (hp : pc + 1 = pc') (k : ps_G Y X r pc' lv (.int (-x) :: st) M) : ps_G Y X r pc lv (.int x :: st) M := by
  subst hp
  intro H locs ls hP hD hS hl
  obtain ⟨hx, hb, hml, hnL, hown, hts, hr, hlk, hK, hb0, hfr, hlo, hce, hsl⟩ := C
  exact lv_ineg hx hb hd (k H locs ls hP hD hS hl)
theorem gw_i2c {μ ρ : Type} {Y : ps_Y μ} {X : ps_X ρ} {cc : ByteArray} {own : String} {ret : Option FieldType} {f n nL : Nat} (C : ps_C Y X cc own ret f n nL) {r : ρ} {pc : Nat} {lv : List (Nat × Value)} {st : List Value} {M : μ} (pc' : Nat) {x : Int32} (hd : decode cc pc = .ok (.i2c, 1)) (hp : pc + 1 = pc') (k : ps_G Y X r pc' lv (.int ((x.toUInt32 % 65536).toInt32) :: st) M) : ps_G Y X r pc lv (.int x :: st) M := by
  subst hp
  intro H locs ls hP hD hS hl
  obtain ⟨hx, hb, hml, hnL, hown, hts, hr, hlk, hK, hb0, hfr, hlo, hce, hsl⟩ := C
  exact lv_i2c hx hb hd rfl (k H locs ls hP hD hS hl)
theorem gw_dup {μ ρ : Type} {Y : ps_Y μ} {X : ps_X ρ} {cc : ByteArray} {own : String} {ret : Option FieldType} {f n nL : Nat} (C : ps_C Y X cc own ret f n nL) {r : ρ} {pc : Nat} {lv : List (Nat × Value)} {st : List Value} {M : μ} (pc' : Nat) {v : Value} (hd : decode cc pc = .ok (.dup, 1)) (hv : v.category = 1) (hp : pc + 1 = pc') (k : ps_G Y X r pc' lv (v :: v :: st) M) : ps_G Y X r pc lv (v :: st) M := by
  subst hp
  intro H locs ls hP hD hS hl
  obtain ⟨hx, hb, hml, hnL, hown, hts, hr, hlk, hK, hb0, hfr, hlo, hce, hsl⟩ := C
  exact lv_dup hx hb hd hv (k H locs ls hP hD hS hl)
theorem gw_pop {μ ρ : Type} {Y : ps_Y μ} {X : ps_X ρ} {cc : ByteArray} {own : String} {ret : Option FieldType} {f n nL : Nat} (C : ps_C Y X cc own ret f n nL) {r : ρ} {pc : Nat} {lv : List (Nat × Value)} {st : List Value} {M : μ} (pc' : Nat) {v : Value} (hd : decode cc pc = .ok (.pop, 1)) (hv : v.category = 1) (hp : pc + 1 = pc') (k : ps_G Y X r pc' lv st M) : ps_G Y X r pc lv (v :: st) M := by
  subst hp
  intro H locs ls hP hD hS hl
  obtain ⟨hx, hb, hml, hnL, hown, hts, hr, hlk, hK, hb0, hfr, hlo, hce, hsl⟩ := C
  exact lv_pop hx hb hd hv (k H locs ls hP hD hS hl)
theorem gw_dup2 {μ ρ : Type} {Y : ps_Y μ} {X : ps_X ρ} {cc : ByteArray} {own : String} {ret : Option FieldType} {f n nL : Nat} (C : ps_C Y X cc own ret f n nL) {r : ρ} {pc : Nat} {lv : List (Nat × Value)} {st : List Value} {M : μ} (pc' : Nat) {v u : Value} (hd : decode cc pc = .ok (.dup2, 1)) (hv : v.category = 1) (hu : u.category = 1) (hp : pc + 1 = pc') (k : ps_G Y X r pc' lv (v :: u :: v :: u :: st) M) : ps_G Y X r pc lv (v :: u :: st) M := by
  subst hp
  intro H locs ls hP hD hS hl
  obtain ⟨hx, hb, hml, hnL, hown, hts, hr, hlk, hK, hb0, hfr, hlo, hce, hsl⟩ := C
  exact lv_dup2_11 hx hb hd hv hu (k H locs ls hP hD hS hl)
theorem gw_istore_n {μ ρ : Type} {Y : ps_Y μ} {X : ps_X ρ} {cc : ByteArray} {own : String} {ret : Option FieldType} {f n nL : Nat} (C : ps_C Y X cc own ret f n nL) {r : ρ} {pc : Nat} {lv : List (Nat × Value)} {st : List Value} {M : μ} (pc' : Nat) {i : Fin 4} {x : Int32} (hd : decode cc pc = .ok (.istore_n i, 1)) (hp : pc + 1 = pc') (lv' : List (Nat × Value)) (qs : List Nat) (hi : (i : Nat) < nL) (h : lv_pick (((i : Nat), Value.int x) :: lv.filter (fun q => !(q.1 == (i : Nat)) && !(q.1 + 1 == (i : Nat) && q.2.category == 2))) qs = lv') (k : ps_G Y X r pc' lv' st M) : ps_G Y X r pc lv (.int x :: st) M := by
  subst hp
  intro H locs ls hP hD hS hl
  obtain ⟨hx, hb, hml, hnL, hown, hts, hr, hlk, hK, hb0, hfr, hlo, hce, hsl⟩ := C
  rw [hnL] at hl
  exact lv_istore_n hx hb hd rfl hl hi rfl (fun ls' hl' => k H locs ls' hP hD hS (by rw [hnL]; exact lv_sub hl' qs h))
theorem gw_istore {μ ρ : Type} {Y : ps_Y μ} {X : ps_X ρ} {cc : ByteArray} {own : String} {ret : Option FieldType} {f n nL : Nat} (C : ps_C Y X cc own ret f n nL) {r : ρ} {pc : Nat} {lv : List (Nat × Value)} {st : List Value} {M : μ} (pc' : Nat) {i : Nat} {x : Int32} (hd : decode cc pc = .ok (.istore i, 2)) (hp : pc + 2 = pc') (lv' : List (Nat × Value)) (qs : List Nat) (hi : (i : Nat) < nL) (h : lv_pick (((i : Nat), Value.int x) :: lv.filter (fun q => !(q.1 == (i : Nat)) && !(q.1 + 1 == (i : Nat) && q.2.category == 2))) qs = lv') (k : ps_G Y X r pc' lv' st M) : ps_G Y X r pc lv (.int x :: st) M := by
  subst hp
  intro H locs ls hP hD hS hl
  obtain ⟨hx, hb, hml, hnL, hown, hts, hr, hlk, hK, hb0, hfr, hlo, hce, hsl⟩ := C
  rw [hnL] at hl
  exact lv_istore hx hb hd hl hi rfl (fun ls' hl' => k H locs ls' hP hD hS (by rw [hnL]; exact lv_sub hl' qs h))
theorem gw_astore_n {μ ρ : Type} {Y : ps_Y μ} {X : ps_X ρ} {cc : ByteArray} {own : String} {ret : Option FieldType} {f n nL : Nat} (C : ps_C Y X cc own ret f n nL) {r : ρ} {pc : Nat} {lv : List (Nat × Value)} {st : List Value} {M : μ} (pc' : Nat) {i : Fin 4} {x : Nat} (hd : decode cc pc = .ok (.astore_n i, 1)) (hp : pc + 1 = pc') (lv' : List (Nat × Value)) (qs : List Nat) (hi : (i : Nat) < nL) (h : lv_pick (((i : Nat), Value.ref x) :: lv.filter (fun q => !(q.1 == (i : Nat)) && !(q.1 + 1 == (i : Nat) && q.2.category == 2))) qs = lv') (k : ps_G Y X r pc' lv' st M) : ps_G Y X r pc lv (.ref x :: st) M := by
  subst hp
  intro H locs ls hP hD hS hl
  obtain ⟨hx, hb, hml, hnL, hown, hts, hr, hlk, hK, hb0, hfr, hlo, hce, hsl⟩ := C
  rw [hnL] at hl
  exact lv_astore_n hx hb hd rfl hl hi rfl (fun ls' hl' => k H locs ls' hP hD hS (by rw [hnL]; exact lv_sub hl' qs h))
theorem gw_astore {μ ρ : Type} {Y : ps_Y μ} {X : ps_X ρ} {cc : ByteArray} {own : String} {ret : Option FieldType} {f n nL : Nat} (C : ps_C Y X cc own ret f n nL) {r : ρ} {pc : Nat} {lv : List (Nat × Value)} {st : List Value} {M : μ} (pc' : Nat) {i : Nat} {x : Nat} (hd : decode cc pc = .ok (.astore i, 2)) (hp : pc + 2 = pc') (lv' : List (Nat × Value)) (qs : List Nat) (hi : (i : Nat) < nL) (h : lv_pick (((i : Nat), Value.ref x) :: lv.filter (fun q => !(q.1 == (i : Nat)) && !(q.1 + 1 == (i : Nat) && q.2.category == 2))) qs = lv') (k : ps_G Y X r pc' lv' st M) : ps_G Y X r pc lv (.ref x :: st) M := by
  subst hp
  intro H locs ls hP hD hS hl
  obtain ⟨hx, hb, hml, hnL, hown, hts, hr, hlk, hK, hb0, hfr, hlo, hce, hsl⟩ := C
  rw [hnL] at hl
  exact lv_astore hx hb hd hl hi rfl (fun ls' hl' => k H locs ls' hP hD hS (by rw [hnL]; exact lv_sub hl' qs h))
theorem gw_lstore_n {μ ρ : Type} {Y : ps_Y μ} {X : ps_X ρ} {cc : ByteArray} {own : String} {ret : Option FieldType} {f n nL : Nat} (C : ps_C Y X cc own ret f n nL) {r : ρ} {pc : Nat} {lv : List (Nat × Value)} {st : List Value} {M : μ} (pc' : Nat) {i : Fin 4} {x : Int64} (hd : decode cc pc = .ok (.lstore_n i, 1)) (hp : pc + 1 = pc') (lv' : List (Nat × Value)) (qs : List Nat) (hi : (i : Nat) + 1 < nL) (h : lv_pick (((i : Nat), Value.long x) :: lv.filter (fun q => !(q.1 == (i : Nat)) && (!(q.1 == (i : Nat) + 1) && !(q.1 + 1 == (i : Nat) && q.2.category == 2)))) qs = lv') (k : ps_G Y X r pc' lv' st M) : ps_G Y X r pc lv (.long x :: st) M := by
  subst hp
  intro H locs ls hP hD hS hl
  obtain ⟨hx, hb, hml, hnL, hown, hts, hr, hlk, hK, hb0, hfr, hlo, hce, hsl⟩ := C
  rw [hnL] at hl
  exact lv_lstore_n hx hb hd rfl hl hi rfl (fun ls' hl' => k H locs ls' hP hD hS (by rw [hnL]; exact lv_sub hl' qs h))
theorem gw_lstore {μ ρ : Type} {Y : ps_Y μ} {X : ps_X ρ} {cc : ByteArray} {own : String} {ret : Option FieldType} {f n nL : Nat} (C : ps_C Y X cc own ret f n nL) {r : ρ} {pc : Nat} {lv : List (Nat × Value)} {st : List Value} {M : μ} (pc' : Nat) {i : Nat} {x : Int64} (hd : decode cc pc = .ok (.lstore i, 2)) (hp : pc + 2 = pc') (lv' : List (Nat × Value)) (qs : List Nat) (hi : (i : Nat) + 1 < nL) (h : lv_pick (((i : Nat), Value.long x) :: lv.filter (fun q => !(q.1 == (i : Nat)) && (!(q.1 == (i : Nat) + 1) && !(q.1 + 1 == (i : Nat) && q.2.category == 2)))) qs = lv') (k : ps_G Y X r pc' lv' st M) : ps_G Y X r pc lv (.long x :: st) M := by
  subst hp
  intro H locs ls hP hD hS hl
  obtain ⟨hx, hb, hml, hnL, hown, hts, hr, hlk, hK, hb0, hfr, hlo, hce, hsl⟩ := C
  rw [hnL] at hl
  exact lv_lstore hx hb hd hl hi rfl (fun ls' hl' => k H locs ls' hP hD hS (by rw [hnL]; exact lv_sub hl' qs h))
theorem gw_iinc {μ ρ : Type} {Y : ps_Y μ} {X : ps_X ρ} {cc : ByteArray} {own : String} {ret : Option FieldType} {f n nL : Nat} (C : ps_C Y X cc own ret f n nL) {r : ρ} {pc : Nat} {lv : List (Nat × Value)} {st : List Value} {M : μ} (pc' : Nat) {i : Nat} {z : Int} {x y v : Int32} (hd : decode cc pc = .ok (.iinc i z, 3)) (hp : pc + 3 = pc') (hy : Int32.ofInt z = y) (hv : x + y = v) (q : Nat) (hq : lv[q]? = some (i, .int x)) (lv' : List (Nat × Value)) (qs : List Nat) (hi : i < nL) (h : lv_pick ((i, Value.int v) :: lv.filter (fun q => !(q.1 == i) && !(q.1 + 1 == i && q.2.category == 2))) qs = lv') (k : ps_G Y X r pc' lv' st M) : ps_G Y X r pc lv st M := by
  subst hp
  intro H locs ls hP hD hS hl
  obtain ⟨hx, hb, hml, hnL, hown, hts, hr, hlk, hK, hb0, hfr, hlo, hce, hsl⟩ := C
  rw [hnL] at hl
  subst hy; subst hv
  exact lv_iinc hx hb hd hl hq rfl hi rfl (fun ls' hl' => k H locs ls' hP hD hS (by rw [hnL]; exact lv_sub hl' qs h))
theorem gw_sub {μ ρ : Type} {Y : ps_Y μ} {X : ps_X ρ} {cc : ByteArray} {own : String} {ret : Option FieldType} {f n nL : Nat} (C : ps_C Y X cc own ret f n nL) {r : ρ} {pc : Nat} {lv : List (Nat × Value)} {st : List Value} {M : μ} (lv' : List (Nat × Value)) (qs : List Nat) (h : lv_pick lv qs = lv') (k : ps_G Y X r pc lv' st M) : ps_G Y X r pc lv st M := fun H locs ls hP hD hS hl => k H locs ls hP hD hS (lv_sub hl qs h)
theorem gw_goto {μ ρ : Type} {Y : ps_Y μ} {X : ps_X ρ} {cc : ByteArray} {own : String} {ret : Option FieldType} {f n nL : Nat} (C : ps_C Y X cc own ret f n nL) {r : ρ} {pc : Nat} {lv : List (Nat × Value)} {st : List Value} {M : μ} {off : Int} (tgt : Nat) (hd : decode cc pc = .ok (.goto off, 3)) (ht : (pc : Int) + off = (tgt : Int)) (k : ps_G Y X r tgt lv st M) : ps_G Y X r pc lv st M := by
  intro H locs ls hP hD hS hl
  obtain ⟨hx, hb, hml, hnL, hown, hts, hr, hlk, hK, hb0, hfr, hlo, hce, hsl⟩ := C
  exact lv_goto hx hb hd ht (k H locs ls hP hD hS hl)
theorem gw_if_eq {μ ρ : Type} {Y : ps_Y μ} {X : ps_X ρ} {cc : ByteArray} {own : String} {ret : Option FieldType} {f n nL : Nat} (C : ps_C Y X cc own ret f n nL) {a b : ρ} {pc : Nat} {lv : List (Nat × Value)} {st : List Value} {M : μ} (tgt pc' : Nat) {x : Int32} {off : Int} (hd : decode cc pc = .ok (.ifCond .eq off, 3)) (ht : (pc : Int) + off = (tgt : Int)) (hp : pc + 3 = pc') (kt : x = 0 → ps_G Y X a tgt lv st M) (kf : ¬ x = 0 → ps_G Y X b pc' lv st M) : ps_G Y X (if x = 0 then a else b) pc lv (.int x :: st) M := by
  subst hp
  intro H locs ls hP hD hS hl
  obtain ⟨hx, hb, hml, hnL, hown, hts, hr, hlk, hK, hb0, hfr, hlo, hce, hsl⟩ := C
  exact lv_if_eq hx hb hd ht (fun h => by have := kt h; rw [if_pos h]; exact this H locs ls hP hD hS hl) (fun h => by have := kf h; rw [if_neg h]; exact this H locs ls hP hD hS hl)
theorem gw_if_ne {μ ρ : Type} {Y : ps_Y μ} {X : ps_X ρ} {cc : ByteArray} {own : String} {ret : Option FieldType} {f n nL : Nat} (C : ps_C Y X cc own ret f n nL) {a b : ρ} {pc : Nat} {lv : List (Nat × Value)} {st : List Value} {M : μ} (tgt pc' : Nat) {x : Int32} {off : Int} (hd : decode cc pc = .ok (.ifCond .ne off, 3)) (ht : (pc : Int) + off = (tgt : Int)) (hp : pc + 3 = pc') (kf : x = 0 → ps_G Y X a pc' lv st M) (kt : ¬ x = 0 → ps_G Y X b tgt lv st M) : ps_G Y X (if x = 0 then a else b) pc lv (.int x :: st) M := by
  subst hp
  intro H locs ls hP hD hS hl
  obtain ⟨hx, hb, hml, hnL, hown, hts, hr, hlk, hK, hb0, hfr, hlo, hce, hsl⟩ := C
  exact lv_if_ne hx hb hd ht (fun h => by have := kt h; rw [if_neg h]; exact this H locs ls hP hD hS hl) (fun h => by have := kf h; rw [if_pos h]; exact this H locs ls hP hD hS hl)
theorem gw_if_lt {μ ρ : Type} {Y : ps_Y μ} {X : ps_X ρ} {cc : ByteArray} {own : String} {ret : Option FieldType} {f n nL : Nat} (C : ps_C Y X cc own ret f n nL) {a b : ρ} {pc : Nat} {lv : List (Nat × Value)} {st : List Value} {M : μ} (tgt pc' : Nat) {x : Int32} {off : Int} (hd : decode cc pc = .ok (.ifCond .lt off, 3)) (ht : (pc : Int) + off = (tgt : Int)) (hp : pc + 3 = pc') (kt : x < 0 → ps_G Y X a tgt lv st M) (kf : ¬ x < 0 → ps_G Y X b pc' lv st M) : ps_G Y X (if x < 0 then a else b) pc lv (.int x :: st) M := by
  subst hp
  intro H locs ls hP hD hS hl
  obtain ⟨hx, hb, hml, hnL, hown, hts, hr, hlk, hK, hb0, hfr, hlo, hce, hsl⟩ := C
  exact lv_if_lt hx hb hd ht (fun h => by have := kt h; rw [if_pos h]; exact this H locs ls hP hD hS hl) (fun h => by have := kf h; rw [if_neg h]; exact this H locs ls hP hD hS hl)
theorem gw_if_ge {μ ρ : Type} {Y : ps_Y μ} {X : ps_X ρ} {cc : ByteArray} {own : String} {ret : Option FieldType} {f n nL : Nat} (C : ps_C Y X cc own ret f n nL) {a b : ρ} {pc : Nat} {lv : List (Nat × Value)} {st : List Value} {M : μ} (tgt pc' : Nat) {x : Int32} {off : Int} (hd : decode cc pc = .ok (.ifCond .ge off, 3)) (ht : (pc : Int) + off = (tgt : Int)) (hp : pc + 3 = pc') (kt : 0 ≤ x → ps_G Y X a tgt lv st M) (kf : ¬ 0 ≤ x → ps_G Y X b pc' lv st M) : ps_G Y X (if 0 ≤ x then a else b) pc lv (.int x :: st) M := by
  subst hp
  intro H locs ls hP hD hS hl
  obtain ⟨hx, hb, hml, hnL, hown, hts, hr, hlk, hK, hb0, hfr, hlo, hce, hsl⟩ := C
  exact lv_if_ge hx hb hd ht (fun h => by have := kt h; rw [if_pos h]; exact this H locs ls hP hD hS hl) (fun h => by have := kf h; rw [if_neg h]; exact this H locs ls hP hD hS hl)
theorem gw_if_gt {μ ρ : Type} {Y : ps_Y μ} {X : ps_X ρ} {cc : ByteArray} {own : String} {ret : Option FieldType} {f n nL : Nat} (C : ps_C Y X cc own ret f n nL) {a b : ρ} {pc : Nat} {lv : List (Nat × Value)} {st : List Value} {M : μ} (tgt pc' : Nat) {x : Int32} {off : Int} (hd : decode cc pc = .ok (.ifCond .gt off, 3)) (ht : (pc : Int) + off = (tgt : Int)) (hp : pc + 3 = pc') (kt : 0 < x → ps_G Y X a tgt lv st M) (kf : ¬ 0 < x → ps_G Y X b pc' lv st M) : ps_G Y X (if 0 < x then a else b) pc lv (.int x :: st) M := by
  subst hp
  intro H locs ls hP hD hS hl
  obtain ⟨hx, hb, hml, hnL, hown, hts, hr, hlk, hK, hb0, hfr, hlo, hce, hsl⟩ := C
  exact lv_if_gt hx hb hd ht (fun h => by have := kt h; rw [if_pos h]; exact this H locs ls hP hD hS hl) (fun h => by have := kf h; rw [if_neg h]; exact this H locs ls hP hD hS hl)
theorem gw_if_le {μ ρ : Type} {Y : ps_Y μ} {X : ps_X ρ} {cc : ByteArray} {own : String} {ret : Option FieldType} {f n nL : Nat} (C : ps_C Y X cc own ret f n nL) {a b : ρ} {pc : Nat} {lv : List (Nat × Value)} {st : List Value} {M : μ} (tgt pc' : Nat) {x : Int32} {off : Int} (hd : decode cc pc = .ok (.ifCond .le off, 3)) (ht : (pc : Int) + off = (tgt : Int)) (hp : pc + 3 = pc') (kt : x ≤ 0 → ps_G Y X a tgt lv st M) (kf : ¬ x ≤ 0 → ps_G Y X b pc' lv st M) : ps_G Y X (if x ≤ 0 then a else b) pc lv (.int x :: st) M := by
  subst hp
  intro H locs ls hP hD hS hl
  obtain ⟨hx, hb, hml, hnL, hown, hts, hr, hlk, hK, hb0, hfr, hlo, hce, hsl⟩ := C
  exact lv_if_le hx hb hd ht (fun h => by have := kt h; rw [if_pos h]; exact this H locs ls hP hD hS hl) (fun h => by have := kf h; rw [if_neg h]; exact this H locs ls hP hD hS hl)
theorem gw_ic_eq {μ ρ : Type} {Y : ps_Y μ} {X : ps_X ρ} {cc : ByteArray} {own : String} {ret : Option FieldType} {f n nL : Nat} (C : ps_C Y X cc own ret f n nL) {a b : ρ} {pc : Nat} {lv : List (Nat × Value)} {st : List Value} {M : μ} (tgt pc' : Nat) {x y : Int32} {off : Int} (hd : decode cc pc = .ok (.if_icmp .eq off, 3)) (ht : (pc : Int) + off = (tgt : Int)) (hp : pc + 3 = pc') (kt : x = y → ps_G Y X a tgt lv st M) (kf : ¬ x = y → ps_G Y X b pc' lv st M) : ps_G Y X (if x = y then a else b) pc lv (.int y :: .int x :: st) M := by
  subst hp
  intro H locs ls hP hD hS hl
  obtain ⟨hx, hb, hml, hnL, hown, hts, hr, hlk, hK, hb0, hfr, hlo, hce, hsl⟩ := C
  exact lv_icmp_eq hx hb hd ht (fun h => by have := kt h; rw [if_pos h]; exact this H locs ls hP hD hS hl) (fun h => by have := kf h; rw [if_neg h]; exact this H locs ls hP hD hS hl)
theorem gw_ic_ne {μ ρ : Type} {Y : ps_Y μ} {X : ps_X ρ} {cc : ByteArray} {own : String} {ret : Option FieldType} {f n nL : Nat} (C : ps_C Y X cc own ret f n nL) {a b : ρ} {pc : Nat} {lv : List (Nat × Value)} {st : List Value} {M : μ} (tgt pc' : Nat) {x y : Int32} {off : Int} (hd : decode cc pc = .ok (.if_icmp .ne off, 3)) (ht : (pc : Int) + off = (tgt : Int)) (hp : pc + 3 = pc') (kf : x = y → ps_G Y X a pc' lv st M) (kt : ¬ x = y → ps_G Y X b tgt lv st M) : ps_G Y X (if x = y then a else b) pc lv (.int y :: .int x :: st) M := by
  subst hp
  intro H locs ls hP hD hS hl
  obtain ⟨hx, hb, hml, hnL, hown, hts, hr, hlk, hK, hb0, hfr, hlo, hce, hsl⟩ := C
  exact lv_icmp_ne hx hb hd ht (fun h => by have := kt h; rw [if_neg h]; exact this H locs ls hP hD hS hl) (fun h => by have := kf h; rw [if_pos h]; exact this H locs ls hP hD hS hl)
theorem gw_ic_lt {μ ρ : Type} {Y : ps_Y μ} {X : ps_X ρ} {cc : ByteArray} {own : String} {ret : Option FieldType} {f n nL : Nat} (C : ps_C Y X cc own ret f n nL) {a b : ρ} {pc : Nat} {lv : List (Nat × Value)} {st : List Value} {M : μ} (tgt pc' : Nat) {x y : Int32} {off : Int} (hd : decode cc pc = .ok (.if_icmp .lt off, 3)) (ht : (pc : Int) + off = (tgt : Int)) (hp : pc + 3 = pc') (kt : x < y → ps_G Y X a tgt lv st M) (kf : ¬ x < y → ps_G Y X b pc' lv st M) : ps_G Y X (if x < y then a else b) pc lv (.int y :: .int x :: st) M := by
  subst hp
  intro H locs ls hP hD hS hl
  obtain ⟨hx, hb, hml, hnL, hown, hts, hr, hlk, hK, hb0, hfr, hlo, hce, hsl⟩ := C
  exact lv_icmp_lt hx hb hd ht (fun h => by have := kt h; rw [if_pos h]; exact this H locs ls hP hD hS hl) (fun h => by have := kf h; rw [if_neg h]; exact this H locs ls hP hD hS hl)
theorem gw_ic_ge {μ ρ : Type} {Y : ps_Y μ} {X : ps_X ρ} {cc : ByteArray} {own : String} {ret : Option FieldType} {f n nL : Nat} (C : ps_C Y X cc own ret f n nL) {a b : ρ} {pc : Nat} {lv : List (Nat × Value)} {st : List Value} {M : μ} (tgt pc' : Nat) {x y : Int32} {off : Int} (hd : decode cc pc = .ok (.if_icmp .ge off, 3)) (ht : (pc : Int) + off = (tgt : Int)) (hp : pc + 3 = pc') (kt : y ≤ x → ps_G Y X a tgt lv st M) (kf : ¬ y ≤ x → ps_G Y X b pc' lv st M) : ps_G Y X (if y ≤ x then a else b) pc lv (.int y :: .int x :: st) M := by
  subst hp
  intro H locs ls hP hD hS hl
  obtain ⟨hx, hb, hml, hnL, hown, hts, hr, hlk, hK, hb0, hfr, hlo, hce, hsl⟩ := C
  exact lv_icmp_ge hx hb hd ht (fun h => by have := kt h; rw [if_pos h]; exact this H locs ls hP hD hS hl) (fun h => by have := kf h; rw [if_neg h]; exact this H locs ls hP hD hS hl)
theorem gw_ic_gt {μ ρ : Type} {Y : ps_Y μ} {X : ps_X ρ} {cc : ByteArray} {own : String} {ret : Option FieldType} {f n nL : Nat} (C : ps_C Y X cc own ret f n nL) {a b : ρ} {pc : Nat} {lv : List (Nat × Value)} {st : List Value} {M : μ} (tgt pc' : Nat) {x y : Int32} {off : Int} (hd : decode cc pc = .ok (.if_icmp .gt off, 3)) (ht : (pc : Int) + off = (tgt : Int)) (hp : pc + 3 = pc') (kt : y < x → ps_G Y X a tgt lv st M) (kf : ¬ y < x → ps_G Y X b pc' lv st M) : ps_G Y X (if y < x then a else b) pc lv (.int y :: .int x :: st) M := by
  subst hp
  intro H locs ls hP hD hS hl
  obtain ⟨hx, hb, hml, hnL, hown, hts, hr, hlk, hK, hb0, hfr, hlo, hce, hsl⟩ := C
  exact lv_icmp_gt hx hb hd ht (fun h => by have := kt h; rw [if_pos h]; exact this H locs ls hP hD hS hl) (fun h => by have := kf h; rw [if_neg h]; exact this H locs ls hP hD hS hl)
theorem gw_ic_le {μ ρ : Type} {Y : ps_Y μ} {X : ps_X ρ} {cc : ByteArray} {own : String} {ret : Option FieldType} {f n nL : Nat} (C : ps_C Y X cc own ret f n nL) {a b : ρ} {pc : Nat} {lv : List (Nat × Value)} {st : List Value} {M : μ} (tgt pc' : Nat) {x y : Int32} {off : Int} (hd : decode cc pc = .ok (.if_icmp .le off, 3)) (ht : (pc : Int) + off = (tgt : Int)) (hp : pc + 3 = pc') (kt : x ≤ y → ps_G Y X a tgt lv st M) (kf : ¬ x ≤ y → ps_G Y X b pc' lv st M) : ps_G Y X (if x ≤ y then a else b) pc lv (.int y :: .int x :: st) M := by
  subst hp
  intro H locs ls hP hD hS hl
  obtain ⟨hx, hb, hml, hnL, hown, hts, hr, hlk, hK, hb0, hfr, hlo, hce, hsl⟩ := C
  exact lv_icmp_le hx hb hd ht (fun h => by have := kt h; rw [if_pos h]; exact this H locs ls hP hD hS hl) (fun h => by have := kf h; rw [if_neg h]; exact this H locs ls hP hD hS hl)
theorem gw_if_eqP {μ : Type} {Y : ps_Y μ} {X : ps_X (Int32 × μ)} {cc : ByteArray} {own : String} {ret : Option FieldType} {f n nL : Nat} (C : ps_C Y X cc own ret f n nL) {a b : Int32} {pc : Nat} {lv : List (Nat × Value)} {st : List Value} {M M0 : μ} (tgt pc' : Nat) {x : Int32} {off : Int} (hd : decode cc pc = .ok (.ifCond .eq off, 3)) (ht : (pc : Int) + off = (tgt : Int)) (hp : pc + 3 = pc') (kt : x = 0 → ps_G Y X (a, M0) tgt lv st M) (kf : ¬ x = 0 → ps_G Y X (b, M0) pc' lv st M) : ps_G Y X ((if x = 0 then a else b), M0) pc lv (.int x :: st) M := by
  rw [show (((if x = 0 then a else b), M0) : Int32 × μ) = (if x = 0 then (a, M0) else (b, M0)) by split <;> rfl]
  exact gw_if_eq C tgt pc' hd ht hp kt kf
theorem gw_if_neP {μ : Type} {Y : ps_Y μ} {X : ps_X (Int32 × μ)} {cc : ByteArray} {own : String} {ret : Option FieldType} {f n nL : Nat} (C : ps_C Y X cc own ret f n nL) {a b : Int32} {pc : Nat} {lv : List (Nat × Value)} {st : List Value} {M M0 : μ} (tgt pc' : Nat) {x : Int32} {off : Int} (hd : decode cc pc = .ok (.ifCond .ne off, 3)) (ht : (pc : Int) + off = (tgt : Int)) (hp : pc + 3 = pc') (kf : x = 0 → ps_G Y X (a, M0) pc' lv st M) (kt : ¬ x = 0 → ps_G Y X (b, M0) tgt lv st M) : ps_G Y X ((if x = 0 then a else b), M0) pc lv (.int x :: st) M := by
  rw [show (((if x = 0 then a else b), M0) : Int32 × μ) = (if x = 0 then (a, M0) else (b, M0)) by split <;> rfl]
  exact gw_if_ne C tgt pc' hd ht hp kf kt
theorem gw_if_ltP {μ : Type} {Y : ps_Y μ} {X : ps_X (Int32 × μ)} {cc : ByteArray} {own : String} {ret : Option FieldType} {f n nL : Nat} (C : ps_C Y X cc own ret f n nL) {a b : Int32} {pc : Nat} {lv : List (Nat × Value)} {st : List Value} {M M0 : μ} (tgt pc' : Nat) {x : Int32} {off : Int} (hd : decode cc pc = .ok (.ifCond .lt off, 3)) (ht : (pc : Int) + off = (tgt : Int)) (hp : pc + 3 = pc') (kt : x < 0 → ps_G Y X (a, M0) tgt lv st M) (kf : ¬ x < 0 → ps_G Y X (b, M0) pc' lv st M) : ps_G Y X ((if x < 0 then a else b), M0) pc lv (.int x :: st) M := by
  rw [show (((if x < 0 then a else b), M0) : Int32 × μ) = (if x < 0 then (a, M0) else (b, M0)) by split <;> rfl]
  exact gw_if_lt C tgt pc' hd ht hp kt kf
theorem gw_if_geP {μ : Type} {Y : ps_Y μ} {X : ps_X (Int32 × μ)} {cc : ByteArray} {own : String} {ret : Option FieldType} {f n nL : Nat} (C : ps_C Y X cc own ret f n nL) {a b : Int32} {pc : Nat} {lv : List (Nat × Value)} {st : List Value} {M M0 : μ} (tgt pc' : Nat) {x : Int32} {off : Int} (hd : decode cc pc = .ok (.ifCond .ge off, 3)) (ht : (pc : Int) + off = (tgt : Int)) (hp : pc + 3 = pc') (kt : 0 ≤ x → ps_G Y X (a, M0) tgt lv st M) (kf : ¬ 0 ≤ x → ps_G Y X (b, M0) pc' lv st M) : ps_G Y X ((if 0 ≤ x then a else b), M0) pc lv (.int x :: st) M := by
  rw [show (((if 0 ≤ x then a else b), M0) : Int32 × μ) = (if 0 ≤ x then (a, M0) else (b, M0)) by split <;> rfl]
  exact gw_if_ge C tgt pc' hd ht hp kt kf
theorem gw_if_gtP {μ : Type} {Y : ps_Y μ} {X : ps_X (Int32 × μ)} {cc : ByteArray} {own : String} {ret : Option FieldType} {f n nL : Nat} (C : ps_C Y X cc own ret f n nL) {a b : Int32} {pc : Nat} {lv : List (Nat × Value)} {st : List Value} {M M0 : μ} (tgt pc' : Nat) {x : Int32} {off : Int} (hd : decode cc pc = .ok (.ifCond .gt off, 3)) (ht : (pc : Int) + off = (tgt : Int)) (hp : pc + 3 = pc') (kt : 0 < x → ps_G Y X (a, M0) tgt lv st M) (kf : ¬ 0 < x → ps_G Y X (b, M0) pc' lv st M) : ps_G Y X ((if 0 < x then a else b), M0) pc lv (.int x :: st) M := by
  rw [show (((if 0 < x then a else b), M0) : Int32 × μ) = (if 0 < x then (a, M0) else (b, M0)) by split <;> rfl]
  exact gw_if_gt C tgt pc' hd ht hp kt kf
theorem gw_if_leP {μ : Type} {Y : ps_Y μ} {X : ps_X (Int32 × μ)} {cc : ByteArray} {own : String} {ret : Option FieldType} {f n nL : Nat} (C : ps_C Y X cc own ret f n nL) {a b : Int32} {pc : Nat} {lv : List (Nat × Value)} {st : List Value} {M M0 : μ} (tgt pc' : Nat) {x : Int32} {off : Int} (hd : decode cc pc = .ok (.ifCond .le off, 3)) (ht : (pc : Int) + off = (tgt : Int)) (hp : pc + 3 = pc') (kt : x ≤ 0 → ps_G Y X (a, M0) tgt lv st M) (kf : ¬ x ≤ 0 → ps_G Y X (b, M0) pc' lv st M) : ps_G Y X ((if x ≤ 0 then a else b), M0) pc lv (.int x :: st) M := by
  rw [show (((if x ≤ 0 then a else b), M0) : Int32 × μ) = (if x ≤ 0 then (a, M0) else (b, M0)) by split <;> rfl]
  exact gw_if_le C tgt pc' hd ht hp kt kf
theorem gw_ic_eqP {μ : Type} {Y : ps_Y μ} {X : ps_X (Int32 × μ)} {cc : ByteArray} {own : String} {ret : Option FieldType} {f n nL : Nat} (C : ps_C Y X cc own ret f n nL) {a b : Int32} {pc : Nat} {lv : List (Nat × Value)} {st : List Value} {M M0 : μ} (tgt pc' : Nat) {x y : Int32} {off : Int} (hd : decode cc pc = .ok (.if_icmp .eq off, 3)) (ht : (pc : Int) + off = (tgt : Int)) (hp : pc + 3 = pc') (kt : x = y → ps_G Y X (a, M0) tgt lv st M) (kf : ¬ x = y → ps_G Y X (b, M0) pc' lv st M) : ps_G Y X ((if x = y then a else b), M0) pc lv (.int y :: .int x :: st) M := by
  rw [show (((if x = y then a else b), M0) : Int32 × μ) = (if x = y then (a, M0) else (b, M0)) by split <;> rfl]
  exact gw_ic_eq C tgt pc' hd ht hp kt kf
theorem gw_ic_neP {μ : Type} {Y : ps_Y μ} {X : ps_X (Int32 × μ)} {cc : ByteArray} {own : String} {ret : Option FieldType} {f n nL : Nat} (C : ps_C Y X cc own ret f n nL) {a b : Int32} {pc : Nat} {lv : List (Nat × Value)} {st : List Value} {M M0 : μ} (tgt pc' : Nat) {x y : Int32} {off : Int} (hd : decode cc pc = .ok (.if_icmp .ne off, 3)) (ht : (pc : Int) + off = (tgt : Int)) (hp : pc + 3 = pc') (kf : x = y → ps_G Y X (a, M0) pc' lv st M) (kt : ¬ x = y → ps_G Y X (b, M0) tgt lv st M) : ps_G Y X ((if x = y then a else b), M0) pc lv (.int y :: .int x :: st) M := by
  rw [show (((if x = y then a else b), M0) : Int32 × μ) = (if x = y then (a, M0) else (b, M0)) by split <;> rfl]
  exact gw_ic_ne C tgt pc' hd ht hp kf kt
theorem gw_ic_ltP {μ : Type} {Y : ps_Y μ} {X : ps_X (Int32 × μ)} {cc : ByteArray} {own : String} {ret : Option FieldType} {f n nL : Nat} (C : ps_C Y X cc own ret f n nL) {a b : Int32} {pc : Nat} {lv : List (Nat × Value)} {st : List Value} {M M0 : μ} (tgt pc' : Nat) {x y : Int32} {off : Int} (hd : decode cc pc = .ok (.if_icmp .lt off, 3)) (ht : (pc : Int) + off = (tgt : Int)) (hp : pc + 3 = pc') (kt : x < y → ps_G Y X (a, M0) tgt lv st M) (kf : ¬ x < y → ps_G Y X (b, M0) pc' lv st M) : ps_G Y X ((if x < y then a else b), M0) pc lv (.int y :: .int x :: st) M := by
  rw [show (((if x < y then a else b), M0) : Int32 × μ) = (if x < y then (a, M0) else (b, M0)) by split <;> rfl]
  exact gw_ic_lt C tgt pc' hd ht hp kt kf
theorem gw_ic_geP {μ : Type} {Y : ps_Y μ} {X : ps_X (Int32 × μ)} {cc : ByteArray} {own : String} {ret : Option FieldType} {f n nL : Nat} (C : ps_C Y X cc own ret f n nL) {a b : Int32} {pc : Nat} {lv : List (Nat × Value)} {st : List Value} {M M0 : μ} (tgt pc' : Nat) {x y : Int32} {off : Int} (hd : decode cc pc = .ok (.if_icmp .ge off, 3)) (ht : (pc : Int) + off = (tgt : Int)) (hp : pc + 3 = pc') (kt : y ≤ x → ps_G Y X (a, M0) tgt lv st M) (kf : ¬ y ≤ x → ps_G Y X (b, M0) pc' lv st M) : ps_G Y X ((if y ≤ x then a else b), M0) pc lv (.int y :: .int x :: st) M := by
  rw [show (((if y ≤ x then a else b), M0) : Int32 × μ) = (if y ≤ x then (a, M0) else (b, M0)) by split <;> rfl]
  exact gw_ic_ge C tgt pc' hd ht hp kt kf
theorem gw_ic_gtP {μ : Type} {Y : ps_Y μ} {X : ps_X (Int32 × μ)} {cc : ByteArray} {own : String} {ret : Option FieldType} {f n nL : Nat} (C : ps_C Y X cc own ret f n nL) {a b : Int32} {pc : Nat} {lv : List (Nat × Value)} {st : List Value} {M M0 : μ} (tgt pc' : Nat) {x y : Int32} {off : Int} (hd : decode cc pc = .ok (.if_icmp .gt off, 3)) (ht : (pc : Int) + off = (tgt : Int)) (hp : pc + 3 = pc') (kt : y < x → ps_G Y X (a, M0) tgt lv st M) (kf : ¬ y < x → ps_G Y X (b, M0) pc' lv st M) : ps_G Y X ((if y < x then a else b), M0) pc lv (.int y :: .int x :: st) M := by
  rw [show (((if y < x then a else b), M0) : Int32 × μ) = (if y < x then (a, M0) else (b, M0)) by split <;> rfl]
  exact gw_ic_gt C tgt pc' hd ht hp kt kf
theorem gw_ic_leP {μ : Type} {Y : ps_Y μ} {X : ps_X (Int32 × μ)} {cc : ByteArray} {own : String} {ret : Option FieldType} {f n nL : Nat} (C : ps_C Y X cc own ret f n nL) {a b : Int32} {pc : Nat} {lv : List (Nat × Value)} {st : List Value} {M M0 : μ} (tgt pc' : Nat) {x y : Int32} {off : Int} (hd : decode cc pc = .ok (.if_icmp .le off, 3)) (ht : (pc : Int) + off = (tgt : Int)) (hp : pc + 3 = pc') (kt : x ≤ y → ps_G Y X (a, M0) tgt lv st M) (kf : ¬ x ≤ y → ps_G Y X (b, M0) pc' lv st M) : ps_G Y X ((if x ≤ y then a else b), M0) pc lv (.int y :: .int x :: st) M := by
  rw [show (((if x ≤ y then a else b), M0) : Int32 × μ) = (if x ≤ y then (a, M0) else (b, M0)) by split <;> rfl]
  exact gw_ic_le C tgt pc' hd ht hp kt kf
theorem gw_caseP {μ : Type} {Y : ps_Y μ} {X : ps_X (Int32 × μ)} {cc : ByteArray} {own : String} {ret : Option FieldType} {f n nL : Nat} (C : ps_C Y X cc own ret f n nL) {a b : Int32} {pc : Nat} {lv : List (Nat × Value)} {st : List Value} {M M0 : μ} {x : Int32} (v : Int32) (ka : x = v → ps_G Y X (a, M0) pc lv (.int x :: st) M) (kb : ¬ x = v → ps_G Y X (b, M0) pc lv (.int x :: st) M) : ps_G Y X ((if x = v then a else b), M0) pc lv (.int x :: st) M := by
  by_cases h : x = v
  · rw [if_pos h]; exact ka h
  · rw [if_neg h]; exact kb h

theorem gw_case {μ ρ : Type} {Y : ps_Y μ} {X : ps_X ρ} {cc : ByteArray} {own : String} {ret : Option FieldType} {f n nL : Nat} (C : ps_C Y X cc own ret f n nL) {a b : ρ} {pc : Nat} {lv : List (Nat × Value)} {st : List Value} {M : μ} {x : Int32} (v : Int32) (ka : x = v → ps_G Y X a pc lv (.int x :: st) M) (kb : ¬ x = v → ps_G Y X b pc lv (.int x :: st) M) : ps_G Y X (if x = v then a else b) pc lv (.int x :: st) M := by
  by_cases h : x = v
  · rw [if_pos h]; exact ka h
  · rw [if_neg h]; exact kb h
theorem gw_tin {μ ρ : Type} {Y : ps_Y μ} {X : ps_X ρ} {cc : ByteArray} {own : String} {ret : Option FieldType} {f n nL : Nat} (C : ps_C Y X cc own ret f n nL) {r : ρ} {pc : Nat} {lv : List (Nat × Value)} {st : List Value} {M : μ} (tgt : Nat) {x v : Int32} {dflt lo hi : Int} {offs : Array Int} {len : Nat} (vi off : Int) (hxv : x = v) (hv : v.toInt = vi) (hd : decode cc pc = .ok (.tableswitch dflt lo hi offs, len)) (h1 : ¬ vi < lo) (h2 : ¬ hi < vi) (ho : offs[(vi - lo).toNat]? = some off) (ht : (pc : Int) + off = (tgt : Int)) (k : ps_G Y X r tgt lv st M) : ps_G Y X r pc lv (.int x :: st) M := by
  subst hxv; subst hv
  intro H locs ls hP hD hS hl
  obtain ⟨hx, hb, hml, hnL, hown, hts, hr, hlk, hK, hb0, hfr, hlo, hce, hsl⟩ := C
  exact lv_tableIn hx hb hd h1 h2 ho ht (k H locs ls hP hD hS hl)
theorem gw_tout {μ ρ : Type} {Y : ps_Y μ} {X : ps_X ρ} {cc : ByteArray} {own : String} {ret : Option FieldType} {f n nL : Nat} (C : ps_C Y X cc own ret f n nL) {r : ρ} {pc : Nat} {lv : List (Nat × Value)} {st : List Value} {M : μ} (tgt : Nat) {x : Int32} {dflt lo hi : Int} {offs : Array Int} {len : Nat} (hd : decode cc pc = .ok (.tableswitch dflt lo hi offs, len)) (h : x.toInt < lo ∨ hi < x.toInt) (ht : (pc : Int) + dflt = (tgt : Int)) (k : ps_G Y X r tgt lv st M) : ps_G Y X r pc lv (.int x :: st) M := by
  intro H locs ls hP hD hS hl
  obtain ⟨hx, hb, hml, hnL, hown, hts, hr, hlk, hK, hb0, hfr, hlo, hce, hsl⟩ := C
  exact lv_tableOut hx hb hd h ht (k H locs ls hP hD hS hl)
theorem ps_ne_int {x v : Int32} (h : ¬ x = v) {z : Int} (hz : v.toInt = z) : ¬ x.toInt = z := fun q => h (Int32.toInt_inj.mp (by rw [hz]; exact q))
theorem gw_mmax {μ ρ : Type} {Y : ps_Y μ} {X : ps_X ρ} {cc : ByteArray} {own : String} {ret : Option FieldType} {f n nL : Nat} (C : ps_C Y X cc own ret f n nL) {r : ρ} {pc : Nat} {lv : List (Nat × Value)} {st : List Value} {M : μ} (pc' : Nat) {x y : Int32} {z : Nat} (hd : decode cc pc = .ok (.invokestatic z, 3)) (hp : pc + 3 = pc') (hw : Cond.methodLink own z Lib.Math.max.name ∈ ps_T) (hf : 1 ≤ f) (hn : (st.map fun v => v.category).sum + 13 ≤ n) (k : ps_G Y X r pc' lv (.int (if x < y then y else x) :: st) M) : ps_G Y X r pc lv (.int y :: .int x :: st) M := by
  subst hp
  intro H locs ls hP hD hS hl
  obtain ⟨hx, hb, hml, hnL, hown, hts, hr, hlk, hK, hb0, hfr, hlo, hce, hsl⟩ := C
  exact va_mmax hx hb (by rw [hml]; exact hl.1.symm) hown (hts _ hw) (hts _ lkj_max) (hts _ lkj_math) (hts _ lkj_maxc) (Nat.le_trans hf hfr) (Nat.le_trans hn hlo) hce hsl hd (k H locs ls hP hD hS hl)
theorem gw_mmin {μ ρ : Type} {Y : ps_Y μ} {X : ps_X ρ} {cc : ByteArray} {own : String} {ret : Option FieldType} {f n nL : Nat} (C : ps_C Y X cc own ret f n nL) {r : ρ} {pc : Nat} {lv : List (Nat × Value)} {st : List Value} {M : μ} (pc' : Nat) {x y : Int32} {z : Nat} (hd : decode cc pc = .ok (.invokestatic z, 3)) (hp : pc + 3 = pc') (hw : Cond.methodLink own z Lib.Math.min.name ∈ ps_T) (hf : 1 ≤ f) (hn : (st.map fun v => v.category).sum + 13 ≤ n) (k : ps_G Y X r pc' lv (.int (if y < x then y else x) :: st) M) : ps_G Y X r pc lv (.int y :: .int x :: st) M := by
  subst hp
  intro H locs ls hP hD hS hl
  obtain ⟨hx, hb, hml, hnL, hown, hts, hr, hlk, hK, hb0, hfr, hlo, hce, hsl⟩ := C
  exact va_mmin hx hb (by rw [hml]; exact hl.1.symm) hown (hts _ hw) (hts _ lkj_min) (hts _ lkj_math) (hts _ lkj_minc) (Nat.le_trans hf hfr) (Nat.le_trans hn hlo) hce hsl hd (k H locs ls hP hD hS hl)
/-- what the tables say of an instance method, of a static one -/
def ps_yv (y : MethodName) (cy : ByteArray) (nLy : Nat) (ry : Option FieldType) (CN : String) (na : Nat) : Prop := (Cond.instanceMethod y ∈ ps_T ∧ Cond.selects CN y y ∈ ps_T ∧ Cond.initialized CN ∈ ps_T ∧ Cond.code y cy nLy ry ∈ ps_T) ∧ (y.cls = CN ∧ y.cls ≠ "java/lang/invoke/MethodHandle" ∧ y.cls ≠ "java/lang/invoke/VarHandle" ∧ (parseMethodDescriptor y.desc).map (fun d => d.parameters.length) = some na)
def ps_ys (y : MethodName) (cy : ByteArray) (nLy : Nat) (ry : Option FieldType) (na : Nat) : Prop := (Cond.static y ∈ ps_T ∧ Cond.initialized y.cls ∈ ps_T ∧ Cond.code y cy nLy ry ∈ ps_T) ∧ (y.cls ≠ "java/lang/invoke/MethodHandle" ∧ y.cls ≠ "java/lang/invoke/VarHandle" ∧ (parseMethodDescriptor y.desc).map (fun d => d.parameters.length) = some na)
theorem ps_good {w : Cond} (h : w ∈ ps_T) : w ∈ ps_T ∧ ((w.onTables && w.keeps) = true ∨ ∃ ty, w = .arrayClass ty) := ⟨h, (ps_goodT w h).2⟩
theorem ps_gV {own CN : String} {z nLy na : Nat} {y : MethodName} {cy : ByteArray} {ry : Option FieldType} (hy : ps_yv y cy nLy ry CN na) (hl : Cond.methodLink own z y ∈ ps_T) : GoodIn ps_T (wsV own z CN y (.code y cy nLy ry :: ps_T)) := by
  intro w hw
  simp only [wsV, List.cons_append, List.nil_append, List.mem_cons] at hw
  rcases hw with rfl | rfl | rfl | rfl | rfl | h
  · exact ps_good hl
  · exact ps_good hy.1.1
  · exact ps_good hy.1.2.1
  · exact ps_good hy.1.2.2.1
  · exact ps_good hy.1.2.2.2
  · exact ps_good h
theorem ps_gS {own : String} {z nLy na : Nat} {y : MethodName} {cy : ByteArray} {ry : Option FieldType} (hy : ps_ys y cy nLy ry na) (hl : Cond.methodLink own z y ∈ ps_T) : GoodIn ps_T (va_wsS own z y (.code y cy nLy ry :: ps_T)) := by
  intro w hw
  simp only [va_wsS, List.cons_append, List.nil_append, List.mem_cons] at hw
  rcases hw with rfl | rfl | rfl | rfl | h
  · exact ps_good hl
  · exact ps_good hy.1.1
  · exact ps_good hy.1.2.1
  · exact ps_good hy.1.2.2
  · exact ps_good h
theorem ps_blind {μ : Type} {Y : ps_Y μ} {M : μ} {as : List Value} : FrameBlind (va_Pc as (fun U => Y.2.1 ≤ U.heap.size ∧ ps_Wd Y M U)) := fun a U g mk q => by
  obtain ⟨q0, q1, qP, qK, qD⟩ := q
  exact ⟨q0, q1, qP, va_K.moved (u := U) (U := U.calling g mk a) (Vm.Alike.refl U.vm) qK, qD⟩
theorem ps_pre {μ : Type} {Y : ps_Y μ} {M : μ} {as : List Value} {s : State} {H : Heap} (hP : va_P Y.1 vwCl (Y.2.2.2 M) H) (hK : va_K Y.1 vwCl (ps_tys Y.2.2.1) s) (hD : va_D (fun q => Y.2.1 ≤ q) (Y.2.2.2 M)) (hz : Y.2.1 ≤ H.size) : ∀ U : State, U.heap = H → s.WarmedH U.vm → va_Pc as (fun U => Y.2.1 ≤ U.heap.size ∧ ps_Wd Y M U) as.toArray U := fun U hU hW => ⟨rfl, by rw [hU]; exact hz, by rw [hU]; exact hP, va_K.moved hW.alike hK, hD⟩
/-- the receiver: a cell of the world that is an object of the class -/
def ps_rc {μ : Type} (Y : ps_Y μ) (M : μ) (b : Nat) (CN : String) : Prop := ∃ (q0 ci : Nat) (q : vw_C) (fs : List Value), vwCl[ci]? = some q ∧ q.1 = CN ∧ (Y.2.2.2 M)[q0]? = some (b, .inr (ci, fs))
theorem gw_cVi {μ ρ : Type} {Y : ps_Y μ} {X : ps_X ρ} {cc : ByteArray} {own : String} {ret : Option FieldType} {f n nL : Nat} (C : ps_C Y X cc own ret f n nL) {r : ρ} {pc : Nat} {lv : List (Nat × Value)} {st : List Value} {M : μ} (pc' : Nat) {z : Nat} (hd : decode cc pc = .ok (.invokevirtual z, 3)) (hp : pc + 3 = pc') {y : MethodName} {cy : ByteArray} {nLy fy ny na : Nat} {ry : Option FieldType} {CN : String} (hy : ps_yv y cy nLy ry CN na) (hl0 : Cond.methodLink own z y ∈ ps_T) (As : List Value) {b : Nat} (rest : List Value) (hst : st = As.reverse ++ .ref b :: rest) {r0 : Int32 × μ} (hc : ps_CI Y (ps_l X) y cy nLy ry fy ny (.ref b :: As) M r0) (hrc : ps_rc Y M b CN) (hna : As.length = na) (hcat : (rest.map fun v => v.category).sum ≤ 8) (hf : fy + 1 ≤ f) (hn : 8 + (nLy + 11) + ny ≤ n) (k : ps_G Y X r pc' lv (.int r0.1 :: rest) r0.2) : ps_G Y X r pc lv st M := by
  subst hp; subst hst
  intro H locs ls hP hD hS hl
  obtain ⟨hx, hb, hml, hnL, hown, hts, hr, hlk, hK, hb0, hfr, hlo, hce, hsl⟩ := C
  have hz : Y.2.1 ≤ H.size := Nat.le_trans hb0 hS.1
  refine va_calli (va_runV (As := As) (rest := rest) (Ts := ps_T) ⟨hx, hb, hml, hown, hts⟩ hc (cwV na hts (ps_gV hy hl0) rfl rfl rfl hy.2 ⟨Nat.le_trans hf hfr, Nat.le_trans hn hlo⟩) ⟨ps_blind, ?_, ps_pre hP hK hD hz⟩ rfl hna hl.1 rfl (lv_room hcat) hd ⟨hce, hsl⟩) hS (fun q _ h => h) (fun q h => h) (fun x u t H1 locs1 ht hvm hw hB hz1 hk1 hS1 => ?_)
  · obtain ⟨q0, ci, q, fs, h1, h2, h3⟩ := hrc
    rw [← h2]
    exact va_recv hK hP h1 h3
  · obtain ⟨hP1, hK1, hD1⟩ := hB
    rw [ht] at hP1
    subst hw
    exact k H1 locs1 ls hP1 hD1 hS1 hl
theorem gw_cVv {μ ρ : Type} {Y : ps_Y μ} {X : ps_X ρ} {cc : ByteArray} {own : String} {ret : Option FieldType} {f n nL : Nat} (C : ps_C Y X cc own ret f n nL) {r : ρ} {pc : Nat} {lv : List (Nat × Value)} {st : List Value} {M : μ} (pc' : Nat) {z : Nat} (hd : decode cc pc = .ok (.invokevirtual z, 3)) (hp : pc + 3 = pc') {y : MethodName} {cy : ByteArray} {nLy fy ny na : Nat} {CN : String} (hy : ps_yv y cy nLy none CN na) (hl0 : Cond.methodLink own z y ∈ ps_T) (As : List Value) {b : Nat} (rest : List Value) (hst : st = As.reverse ++ .ref b :: rest) {r0 : μ} (hc : ps_CV Y (ps_l X) y cy nLy fy ny (.ref b :: As) M r0) (hrc : ps_rc Y M b CN) (hna : As.length = na) (hcat : (rest.map fun v => v.category).sum ≤ 8) (hf : fy + 1 ≤ f) (hn : 8 + (nLy + 11) + ny ≤ n) (k : ps_G Y X r pc' lv rest r0) : ps_G Y X r pc lv st M := by
  subst hp; subst hst
  intro H locs ls hP hD hS hl
  obtain ⟨hx, hb, hml, hnL, hown, hts, hr, hlk, hK, hb0, hfr, hlo, hce, hsl⟩ := C
  have hz : Y.2.1 ≤ H.size := Nat.le_trans hb0 hS.1
  refine va_callv (va_runV (As := As) (rest := rest) (Ts := ps_T) ⟨hx, hb, hml, hown, hts⟩ hc (cwV na hts (ps_gV hy hl0) rfl rfl rfl hy.2 ⟨Nat.le_trans hf hfr, Nat.le_trans hn hlo⟩) ⟨ps_blind, ?_, ps_pre hP hK hD hz⟩ rfl hna hl.1 rfl (lv_room hcat) hd ⟨hce, hsl⟩) hS (fun q _ h => h) (fun q h => h) (fun u t H1 locs1 ht hvm hw hB hz1 hk1 hS1 => ?_)
  · obtain ⟨q0, ci, q, fs, h1, h2, h3⟩ := hrc
    rw [← h2]
    exact va_recv hK hP h1 h3
  · obtain ⟨hP1, hK1, hD1⟩ := hB
    rw [ht] at hP1
    exact k H1 locs1 ls hP1 hD1 hS1 hl
theorem gw_cVr {μ ρ : Type} {Y : ps_Y μ} {X : ps_X ρ} {cc : ByteArray} {own : String} {ret : Option FieldType} {f n nL : Nat} (C : ps_C Y X cc own ret f n nL) {r : ρ} {pc : Nat} {lv : List (Nat × Value)} {st : List Value} {M : μ} (pc' : Nat) {z : Nat} (hd : decode cc pc = .ok (.invokevirtual z, 3)) (hp : pc + 3 = pc') {y : MethodName} {cy : ByteArray} {nLy fy ny na : Nat} {ry : Option FieldType} {CN : String} (hy : ps_yv y cy nLy ry CN na) (hl0 : Cond.methodLink own z y ∈ ps_T) (As : List Value) {b : Nat} (rest : List Value) (hst : st = As.reverse ++ .ref b :: rest) {r0 : Nat × μ} (hc : ps_CR Y (ps_l X) y cy nLy ry fy ny (.ref b :: As) M r0) (hrc : ps_rc Y M b CN) (hna : As.length = na) (hcat : (rest.map fun v => v.category).sum ≤ 8) (hf : fy + 1 ≤ f) (hn : 8 + (nLy + 11) + ny ≤ n) (k : ps_G Y X r pc' lv (.ref r0.1 :: rest) r0.2) : ps_G Y X r pc lv st M := by
  subst hp; subst hst
  intro H locs ls hP hD hS hl
  obtain ⟨hx, hb, hml, hnL, hown, hts, hr, hlk, hK, hb0, hfr, hlo, hce, hsl⟩ := C
  have hz : Y.2.1 ≤ H.size := Nat.le_trans hb0 hS.1
  refine va_callr (va_runV (As := As) (rest := rest) (Ts := ps_T) ⟨hx, hb, hml, hown, hts⟩ hc (cwV na hts (ps_gV hy hl0) rfl rfl rfl hy.2 ⟨Nat.le_trans hf hfr, Nat.le_trans hn hlo⟩) ⟨ps_blind, ?_, ps_pre hP hK hD hz⟩ rfl hna hl.1 rfl (lv_room hcat) hd ⟨hce, hsl⟩) hS (fun q _ h => h) (fun q h => h) (fun u a t H1 locs1 ht hvm hw hB hz1 hk1 hS1 => ?_)
  · obtain ⟨q0, ci, q, fs, h1, h2, h3⟩ := hrc
    rw [← h2]
    exact va_recv hK hP h1 h3
  · obtain ⟨ha, hP1, hK1, hD1⟩ := hB
    rw [ht] at hP1
    subst ha
    exact k H1 locs1 ls hP1 hD1 hS1 hl
theorem gw_cVl {μ ρ : Type} {Y : ps_Y μ} {X : ps_X ρ} {cc : ByteArray} {own : String} {ret : Option FieldType} {f n nL : Nat} (C : ps_C Y X cc own ret f n nL) {r : ρ} {pc : Nat} {lv : List (Nat × Value)} {st : List Value} {M : μ} (pc' : Nat) {z : Nat} (hd : decode cc pc = .ok (.invokevirtual z, 3)) (hp : pc + 3 = pc') {y : MethodName} {cy : ByteArray} {nLy fy ny na : Nat} {ry : Option FieldType} {CN : String} (hy : ps_yv y cy nLy ry CN na) (hl0 : Cond.methodLink own z y ∈ ps_T) (As : List Value) {b : Nat} (rest : List Value) (hst : st = As.reverse ++ .ref b :: rest) {r0 : Int64 × μ} (hc : ps_CJ Y (ps_l X) y cy nLy ry fy ny (.ref b :: As) M r0) (hrc : ps_rc Y M b CN) (hna : As.length = na) (hcat : (rest.map fun v => v.category).sum ≤ 8) (hf : fy + 1 ≤ f) (hn : 8 + (nLy + 11) + ny ≤ n) (k : ps_G Y X r pc' lv (.long r0.1 :: rest) r0.2) : ps_G Y X r pc lv st M := by
  subst hp; subst hst
  intro H locs ls hP hD hS hl
  obtain ⟨hx, hb, hml, hnL, hown, hts, hr, hlk, hK, hb0, hfr, hlo, hce, hsl⟩ := C
  have hz : Y.2.1 ≤ H.size := Nat.le_trans hb0 hS.1
  refine va_calll (va_runV (As := As) (rest := rest) (Ts := ps_T) ⟨hx, hb, hml, hown, hts⟩ hc (cwV na hts (ps_gV hy hl0) rfl rfl rfl hy.2 ⟨Nat.le_trans hf hfr, Nat.le_trans hn hlo⟩) ⟨ps_blind, ?_, ps_pre hP hK hD hz⟩ rfl hna hl.1 rfl (lv_room hcat) hd ⟨hce, hsl⟩) hS (fun q _ h => h) (fun q h => h) (fun x u t H1 locs1 ht hvm hw hB hz1 hk1 hS1 => ?_)
  · obtain ⟨q0, ci, q, fs, h1, h2, h3⟩ := hrc
    rw [← h2]
    exact va_recv hK hP h1 h3
  · obtain ⟨hP1, hK1, hD1⟩ := hB
    rw [ht] at hP1
    subst hw
    exact k H1 locs1 ls hP1 hD1 hS1 hl
theorem gw_cSi {μ ρ : Type} {Y : ps_Y μ} {X : ps_X ρ} {cc : ByteArray} {own : String} {ret : Option FieldType} {f n nL : Nat} (C : ps_C Y X cc own ret f n nL) {r : ρ} {pc : Nat} {lv : List (Nat × Value)} {st : List Value} {M : μ} (pc' : Nat) {z : Nat} (hd : decode cc pc = .ok (.invokestatic z, 3)) (hp : pc + 3 = pc') {y : MethodName} {cy : ByteArray} {nLy fy ny na : Nat} {ry : Option FieldType} (hy : ps_ys y cy nLy ry na) (hl0 : Cond.methodLink own z y ∈ ps_T) (As : List Value) (rest : List Value) (hst : st = As.reverse ++ rest) {r0 : Int32 × μ} (hc : ps_CI Y (ps_l X) y cy nLy ry fy ny As M r0) (hna : As.length = na) (hcat : (rest.map fun v => v.category).sum ≤ 8) (hf : fy + 1 ≤ f) (hn : 8 + (nLy + 11) + ny ≤ n) (k : ps_G Y X r pc' lv (.int r0.1 :: rest) r0.2) : ps_G Y X r pc lv st M := by
  subst hp; subst hst
  intro H locs ls hP hD hS hl
  obtain ⟨hx, hb, hml, hnL, hown, hts, hr, hlk, hK, hb0, hfr, hlo, hce, hsl⟩ := C
  have hz : Y.2.1 ≤ H.size := Nat.le_trans hb0 hS.1
  refine va_calli (va_runS (As := As) (rest := rest) (Ts := ps_T) ⟨hx, hb, hml, hown, hts⟩ hc (va_cwS na hts (ps_gS hy hl0) rfl rfl rfl hy.2 ⟨Nat.le_trans hf hfr, Nat.le_trans hn hlo⟩) ⟨ps_blind, ps_pre hP hK hD hz⟩ rfl hna hl.1 rfl (lv_room hcat) hd ⟨hce, hsl⟩) hS (fun q _ h => h) (fun q h => h) (fun x u t H1 locs1 ht hvm hw hB hz1 hk1 hS1 => ?_)
  · obtain ⟨hP1, hK1, hD1⟩ := hB
    rw [ht] at hP1
    subst hw
    exact k H1 locs1 ls hP1 hD1 hS1 hl
theorem gw_cSv {μ ρ : Type} {Y : ps_Y μ} {X : ps_X ρ} {cc : ByteArray} {own : String} {ret : Option FieldType} {f n nL : Nat} (C : ps_C Y X cc own ret f n nL) {r : ρ} {pc : Nat} {lv : List (Nat × Value)} {st : List Value} {M : μ} (pc' : Nat) {z : Nat} (hd : decode cc pc = .ok (.invokestatic z, 3)) (hp : pc + 3 = pc') {y : MethodName} {cy : ByteArray} {nLy fy ny na : Nat} (hy : ps_ys y cy nLy none na) (hl0 : Cond.methodLink own z y ∈ ps_T) (As : List Value) (rest : List Value) (hst : st = As.reverse ++ rest) {r0 : μ} (hc : ps_CV Y (ps_l X) y cy nLy fy ny As M r0) (hna : As.length = na) (hcat : (rest.map fun v => v.category).sum ≤ 8) (hf : fy + 1 ≤ f) (hn : 8 + (nLy + 11) + ny ≤ n) (k : ps_G Y X r pc' lv rest r0) : ps_G Y X r pc lv st M := by
  subst hp; subst hst
  intro H locs ls hP hD hS hl
  obtain ⟨hx, hb, hml, hnL, hown, hts, hr, hlk, hK, hb0, hfr, hlo, hce, hsl⟩ := C
  have hz : Y.2.1 ≤ H.size := Nat.le_trans hb0 hS.1
  refine va_callv (va_runS (As := As) (rest := rest) (Ts := ps_T) ⟨hx, hb, hml, hown, hts⟩ hc (va_cwS na hts (ps_gS hy hl0) rfl rfl rfl hy.2 ⟨Nat.le_trans hf hfr, Nat.le_trans hn hlo⟩) ⟨ps_blind, ps_pre hP hK hD hz⟩ rfl hna hl.1 rfl (lv_room hcat) hd ⟨hce, hsl⟩) hS (fun q _ h => h) (fun q h => h) (fun u t H1 locs1 ht hvm hw hB hz1 hk1 hS1 => ?_)
  · obtain ⟨hP1, hK1, hD1⟩ := hB
    rw [ht] at hP1
    exact k H1 locs1 ls hP1 hD1 hS1 hl
theorem gw_cSr {μ ρ : Type} {Y : ps_Y μ} {X : ps_X ρ} {cc : ByteArray} {own : String} {ret : Option FieldType} {f n nL : Nat} (C : ps_C Y X cc own ret f n nL) {r : ρ} {pc : Nat} {lv : List (Nat × Value)} {st : List Value} {M : μ} (pc' : Nat) {z : Nat} (hd : decode cc pc = .ok (.invokestatic z, 3)) (hp : pc + 3 = pc') {y : MethodName} {cy : ByteArray} {nLy fy ny na : Nat} {ry : Option FieldType} (hy : ps_ys y cy nLy ry na) (hl0 : Cond.methodLink own z y ∈ ps_T) (As : List Value) (rest : List Value) (hst : st = As.reverse ++ rest) {r0 : Nat × μ} (hc : ps_CR Y (ps_l X) y cy nLy ry fy ny As M r0) (hna : As.length = na) (hcat : (rest.map fun v => v.category).sum ≤ 8) (hf : fy + 1 ≤ f) (hn : 8 + (nLy + 11) + ny ≤ n) (k : ps_G Y X r pc' lv (.ref r0.1 :: rest) r0.2) : ps_G Y X r pc lv st M := by
  subst hp; subst hst
  intro H locs ls hP hD hS hl
  obtain ⟨hx, hb, hml, hnL, hown, hts, hr, hlk, hK, hb0, hfr, hlo, hce, hsl⟩ := C
  have hz : Y.2.1 ≤ H.size := Nat.le_trans hb0 hS.1
  refine va_callr (va_runS (As := As) (rest := rest) (Ts := ps_T) ⟨hx, hb, hml, hown, hts⟩ hc (va_cwS na hts (ps_gS hy hl0) rfl rfl rfl hy.2 ⟨Nat.le_trans hf hfr, Nat.le_trans hn hlo⟩) ⟨ps_blind, ps_pre hP hK hD hz⟩ rfl hna hl.1 rfl (lv_room hcat) hd ⟨hce, hsl⟩) hS (fun q _ h => h) (fun q h => h) (fun u a t H1 locs1 ht hvm hw hB hz1 hk1 hS1 => ?_)
  · obtain ⟨ha, hP1, hK1, hD1⟩ := hB
    rw [ht] at hP1
    subst ha
    exact k H1 locs1 ls hP1 hD1 hS1 hl
theorem gw_cSl {μ ρ : Type} {Y : ps_Y μ} {X : ps_X ρ} {cc : ByteArray} {own : String} {ret : Option FieldType} {f n nL : Nat} (C : ps_C Y X cc own ret f n nL) {r : ρ} {pc : Nat} {lv : List (Nat × Value)} {st : List Value} {M : μ} (pc' : Nat) {z : Nat} (hd : decode cc pc = .ok (.invokestatic z, 3)) (hp : pc + 3 = pc') {y : MethodName} {cy : ByteArray} {nLy fy ny na : Nat} {ry : Option FieldType} (hy : ps_ys y cy nLy ry na) (hl0 : Cond.methodLink own z y ∈ ps_T) (As : List Value) (rest : List Value) (hst : st = As.reverse ++ rest) {r0 : Int64 × μ} (hc : ps_CJ Y (ps_l X) y cy nLy ry fy ny As M r0) (hna : As.length = na) (hcat : (rest.map fun v => v.category).sum ≤ 8) (hf : fy + 1 ≤ f) (hn : 8 + (nLy + 11) + ny ≤ n) (k : ps_G Y X r pc' lv (.long r0.1 :: rest) r0.2) : ps_G Y X r pc lv st M := by
  subst hp; subst hst
  intro H locs ls hP hD hS hl
  obtain ⟨hx, hb, hml, hnL, hown, hts, hr, hlk, hK, hb0, hfr, hlo, hce, hsl⟩ := C
  have hz : Y.2.1 ≤ H.size := Nat.le_trans hb0 hS.1
  refine va_calll (va_runS (As := As) (rest := rest) (Ts := ps_T) ⟨hx, hb, hml, hown, hts⟩ hc (va_cwS na hts (ps_gS hy hl0) rfl rfl rfl hy.2 ⟨Nat.le_trans hf hfr, Nat.le_trans hn hlo⟩) ⟨ps_blind, ps_pre hP hK hD hz⟩ rfl hna hl.1 rfl (lv_room hcat) hd ⟨hce, hsl⟩) hS (fun q _ h => h) (fun q h => h) (fun x u t H1 locs1 ht hvm hw hB hz1 hk1 hS1 => ?_)
  · obtain ⟨hP1, hK1, hD1⟩ := hB
    rw [ht] at hP1
    subst hw
    exact k H1 locs1 ls hP1 hD1 hS1 hl
theorem gw_cVp {μ ρ : Type} {Y : ps_Y μ} {X : ps_X ρ} {cc : ByteArray} {own : String} {ret : Option FieldType} {f n nL : Nat} (C : ps_C Y X cc own ret f n nL) {r : ρ} {pc : Nat} {lv : List (Nat × Value)} {st : List Value} {M : μ} (pc' : Nat) {z : Nat} (hd : decode cc pc = .ok (.invokevirtual z, 3)) (hp : pc + 3 = pc') {y : MethodName} {cy : ByteArray} {nLy fy ny na : Nat} {ry : Option FieldType} {CN : String} (hy : ps_yv y cy nLy ry CN na) (hl0 : Cond.methodLink own z y ∈ ps_T) (As : List Value) {b : Nat} (rest : List Value) (hst : st = As.reverse ++ .ref b :: rest) {x0 : Int32} (hc : ps_CI Y (ps_l X) y cy nLy ry fy ny (.ref b :: As) M (x0, M)) (hrc : ps_rc Y M b CN) (hna : As.length = na) (hcat : (rest.map fun v => v.category).sum ≤ 8) (hf : fy + 1 ≤ f) (hn : 8 + (nLy + 11) + ny ≤ n) (k : ps_G Y X r pc' lv (.int x0 :: rest) M) : ps_G Y X r pc lv st M := gw_cVi C pc' hd hp hy hl0 As rest hst hc hrc hna hcat hf hn k
theorem gw_cVq {μ ρ : Type} {Y : ps_Y μ} {X : ps_X ρ} {cc : ByteArray} {own : String} {ret : Option FieldType} {f n nL : Nat} (C : ps_C Y X cc own ret f n nL) {r : ρ} {pc : Nat} {lv : List (Nat × Value)} {st : List Value} {M : μ} (pc' : Nat) {z : Nat} (hd : decode cc pc = .ok (.invokevirtual z, 3)) (hp : pc + 3 = pc') {y : MethodName} {cy : ByteArray} {nLy fy ny na : Nat} {ry : Option FieldType} {CN : String} (hy : ps_yv y cy nLy ry CN na) (hl0 : Cond.methodLink own z y ∈ ps_T) (As : List Value) {b : Nat} (rest : List Value) (hst : st = As.reverse ++ .ref b :: rest) {x0 : Nat} {M1 : μ} (hc : ps_CR Y (ps_l X) y cy nLy ry fy ny (.ref b :: As) M (x0, M1)) (hrc : ps_rc Y M b CN) (hna : As.length = na) (hcat : (rest.map fun v => v.category).sum ≤ 8) (hf : fy + 1 ≤ f) (hn : 8 + (nLy + 11) + ny ≤ n) (k : ps_G Y X r pc' lv (.ref x0 :: rest) M1) : ps_G Y X r pc lv st M := gw_cVr C pc' hd hp hy hl0 As rest hst hc hrc hna hcat hf hn k
theorem gw_cSp {μ ρ : Type} {Y : ps_Y μ} {X : ps_X ρ} {cc : ByteArray} {own : String} {ret : Option FieldType} {f n nL : Nat} (C : ps_C Y X cc own ret f n nL) {r : ρ} {pc : Nat} {lv : List (Nat × Value)} {st : List Value} {M : μ} (pc' : Nat) {z : Nat} (hd : decode cc pc = .ok (.invokestatic z, 3)) (hp : pc + 3 = pc') {y : MethodName} {cy : ByteArray} {nLy fy ny na : Nat} {ry : Option FieldType} (hy : ps_ys y cy nLy ry na) (hl0 : Cond.methodLink own z y ∈ ps_T) (As : List Value) (rest : List Value) (hst : st = As.reverse ++ rest) {x0 : Int32} (hc : ps_CI Y (ps_l X) y cy nLy ry fy ny As M (x0, M)) (hna : As.length = na) (hcat : (rest.map fun v => v.category).sum ≤ 8) (hf : fy + 1 ≤ f) (hn : 8 + (nLy + 11) + ny ≤ n) (k : ps_G Y X r pc' lv (.int x0 :: rest) M) : ps_G Y X r pc lv st M := gw_cSi C pc' hd hp hy hl0 As rest hst hc hna hcat hf hn k
theorem gw_cSq {μ ρ : Type} {Y : ps_Y μ} {X : ps_X ρ} {cc : ByteArray} {own : String} {ret : Option FieldType} {f n nL : Nat} (C : ps_C Y X cc own ret f n nL) {r : ρ} {pc : Nat} {lv : List (Nat × Value)} {st : List Value} {M : μ} (pc' : Nat) {z : Nat} (hd : decode cc pc = .ok (.invokestatic z, 3)) (hp : pc + 3 = pc') {y : MethodName} {cy : ByteArray} {nLy fy ny na : Nat} {ry : Option FieldType} (hy : ps_ys y cy nLy ry na) (hl0 : Cond.methodLink own z y ∈ ps_T) (As : List Value) (rest : List Value) (hst : st = As.reverse ++ rest) {x0 : Nat} {M1 : μ} (hc : ps_CR Y (ps_l X) y cy nLy ry fy ny As M (x0, M1)) (hna : As.length = na) (hcat : (rest.map fun v => v.category).sum ≤ 8) (hf : fy + 1 ≤ f) (hn : 8 + (nLy + 11) + ny ≤ n) (k : ps_G Y X r pc' lv (.ref x0 :: rest) M1) : ps_G Y X r pc lv st M := gw_cSr C pc' hd hp hy hl0 As rest hst hc hna hcat hf hn k
theorem ps_nb0 : narrow .boolean (.int 0) = .int 0 := by decide
theorem ps_nb1 : narrow .boolean (.int 1) = .int 1 := by decide
theorem ps_nb {v : Int32} (h : v = 0 ∨ v = 1) : narrow .boolean (.int v) = .int v := by rcases h with rfl | rfl; exact ps_nb0; exact ps_nb1
def ps_FU : Nat := 1024
