/-! ===== THE LAW: its world is the class's cells and the reference's ===== -/
abbrev pl_Q : Type := va_G × Nat × (Nat → ClassId) × (Nat → Nat) × (Nat → Nat)
def pl_L2 (Q : pl_Q) (N : ps_M) : va_W := (List.range 7).map (fun k => (Q.2.2.2.2 k, pm_cf Q.2.2.1 Q.2.2.2.2 N k))
def pl_L1 (Q : pl_Q) (M : ps_M) : va_W := (List.range 197).map (fun k => (Q.2.2.2.1 k, ps_cf Q.2.2.1 Q.2.2.2.1 M k))
def pl_Ec (Q : pl_Q) (N : ps_M) : ps_E := (Q.1, Q.2.1, Q.2.2.1, Q.2.2.2.1, pl_L2 Q N)
def pl_Em (Q : pl_Q) (M : ps_M) : ps_E := (Q.1, Q.2.1, Q.2.2.1, Q.2.2.2.2, pl_L1 Q M)
def pl_Y (Q : pl_Q) : ps_Y (ps_M × ps_M) := (Q.1, Q.2.1, Q.2.2.1, fun q => pl_L1 Q q.1 ++ pl_L2 Q q.2)
theorem pl_cc {Q : pl_Q} {N M : ps_M} {l : Launch} {y : MethodName} {cc : ByteArray} {nL f n : Nat} {ret : Option FieldType} {as : List Value} {r : Int32 × ps_M} (h : ps_CI (ps_Yc (pl_Ec Q N)) l y cc nL ret f n as M r) : ps_CI (pl_Y Q) l y cc nL ret f n as (M, N) (r.1, (r.2, N)) := h
theorem pl_cm {Q : pl_Q} {N M : ps_M} {l : Launch} {y : MethodName} {cc : ByteArray} {nL f n : Nat} {ret : Option FieldType} {as : List Value} {r : Int32 × ps_M} (h : ps_CI (pm_Y (pl_Em Q M)) l y cc nL ret f n as N r) : ps_CI (pl_Y Q) l y cc nL ret f n as (M, N) (r.1, (M, r.2)) := h
theorem pl_rc {Q : pl_Q} {N M : ps_M} : ps_rc (pl_Y Q) (M, N) (Q.2.2.2.1 0) RX5 := (rc_P (E := pl_Ec Q N) (M := M) : ps_rc (ps_Yc (pl_Ec Q N)) M _ _)
theorem pl_rm {Q : pl_Q} {N M : ps_M} : ps_rc (pl_Y Q) (M, N) (Q.2.2.2.2 0) RX6 := (pm_recv (E := pl_Em Q M) (M := N) : ps_rc (pm_Y (pl_Em Q M)) N _ _)
def pl_scr {ρ μ : Type} (Y : ps_Y μ) (X : ps_X ρ) (b L : Nat) (xs : Nat → Int32) : Prop := va_X b L xs (ps_s X) (ps_s X).heap ∧ b < (ps_s X).heap.size ∧ ¬ Y.2.1 ≤ b
theorem gl_sld {μ ρ : Type} {Y : ps_Y μ} {X : ps_X ρ} {cc : ByteArray} {own : String} {ret : Option FieldType} {f n nL : Nat} (C : ps_C Y X cc own ret f n nL) {r : ρ} {pc : Nat} {lv : List (Nat × Value)} {st : List Value} {M : μ} (pc' : Nat) (hd : decode cc pc = .ok (.iaload, 1)) (hp : pc + 1 = pc') {b L : Nat} {xs : Nat → Int32} (hX : pl_scr Y X b L xs) {i : Int32} (hi : vp_in i L) (k : ps_G Y X r pc' lv (.int (xs i.toNatClampNeg) :: st) M) : ps_G Y X r pc lv (.int i :: .ref b :: st) M := by
  subst hp
  intro H locs ls hP hD hS hl
  obtain ⟨hx, hb, hml, hnL, hown, hts, hr, hlk, hK, hb0, hfr, hlo, hce, hsl⟩ := C
  exact va_sld hx hb hX.1 hX.2.1 hX.2.2 hS hi hd (k H locs ls hP hD hS hl)
theorem gl_slen {μ ρ : Type} {Y : ps_Y μ} {X : ps_X ρ} {cc : ByteArray} {own : String} {ret : Option FieldType} {f n nL : Nat} (C : ps_C Y X cc own ret f n nL) {r : ρ} {pc : Nat} {lv : List (Nat × Value)} {st : List Value} {M : μ} (pc' : Nat) (hd : decode cc pc = .ok (.arraylength, 1)) (hp : pc + 1 = pc') {b L : Nat} {xs : Nat → Int32} (hX : pl_scr Y X b L xs) (k : ps_G Y X r pc' lv (.int (nI L) :: st) M) : ps_G Y X r pc lv (.ref b :: st) M := by
  subst hp
  intro H locs ls hP hD hS hl
  obtain ⟨hx, hb, hml, hnL, hown, hts, hr, hlk, hK, hb0, hfr, hlo, hce, hsl⟩ := C
  exact va_slen hx hb hX.1 hX.2.1 hX.2.2 hS hd (k H locs ls hP hD hS hl)
theorem gl_iceq {μ ρ : Type} {Y : ps_Y μ} {X : ps_X ρ} {cc : ByteArray} {own : String} {ret : Option FieldType} {f n nL : Nat} (C : ps_C Y X cc own ret f n nL) {r : ρ} {pc : Nat} {lv : List (Nat × Value)} {st : List Value} {M : μ} (tgt pc' : Nat) {x y : Int32} {off : Int} (hd : decode cc pc = .ok (.if_icmp .eq off, 3)) (ht : (pc : Int) + off = (tgt : Int)) (h : x = y) (k : ps_G Y X r tgt lv st M) : ps_G Y X r pc lv (.int y :: .int x :: st) M := by
  intro H locs ls hP hD hS hl
  obtain ⟨hx, hb, hml, hnL, hown, hts, hr, hlk, hK, hb0, hfr, hlo, hce, hsl⟩ := C
  exact lv_icmp_eq hx hb hd ht (fun _ => k H locs ls hP hD hS hl) (fun c => absurd h c)
theorem gl_icgt {μ ρ : Type} {Y : ps_Y μ} {X : ps_X ρ} {cc : ByteArray} {own : String} {ret : Option FieldType} {f n nL : Nat} (C : ps_C Y X cc own ret f n nL) {r : ρ} {pc : Nat} {lv : List (Nat × Value)} {st : List Value} {M : μ} (tgt pc' : Nat) {x y : Int32} {off : Int} (hd : decode cc pc = .ok (.if_icmp .gt off, 3)) (ht : (pc : Int) + off = (tgt : Int)) (hp : pc + 3 = pc') (kt : y < x → ps_G Y X r tgt lv st M) (kf : ¬ y < x → ps_G Y X r pc' lv st M) : ps_G Y X r pc lv (.int y :: .int x :: st) M := by
  subst hp
  intro H locs ls hP hD hS hl
  obtain ⟨hx, hb, hml, hnL, hown, hts, hr, hlk, hK, hb0, hfr, hlo, hce, hsl⟩ := C
  exact lv_icmp_gt hx hb hd ht (fun c => kt c H locs ls hP hD hS hl) (fun c => kf c H locs ls hP hD hS hl)
theorem pl_end {L i : Nat} (hL : L ≤ 2048) (hi : i ≤ 2052) (h : ¬ nI L - 4 < nI i) : i + 4 ≤ L := by
  rw [Int32.lt_iff_toInt_lt, show (4 : Int32) = nI 4 from rfl, pk_sub_toInt (show L < 2 ^ 30 by omega) (show 4 < 2 ^ 30 by omega), nI_toInt (show i < 2 ^ 31 by omega)] at h
  omega
theorem pl_ix {L i j : Nat} (hL : L ≤ 2048) (h : i + j < L) : vp_in (nI i + nI j) L := by
  rw [nI_add]; exact vp_in_nI h (by omega)
theorem pl_chr (x : Int32) : (x.toUInt32 % 65536).toInt32 = (((x.toUInt32 % 65536).toInt32).toUInt32 % 65536).toInt32 := by
  apply Int32.toBitVec_inj.mp
  simp only [UInt32.toBitVec_toInt32, UInt32.toBitVec_mod, Int32.toBitVec_toUInt32, UInt32.toUInt32_toInt32]
  apply BitVec.eq_of_toNat_eq
  simp
def pl_sim_addStation (Rel : ps_M → ps_M → Prop) : Prop := ∀ (M N : ps_M), Rel M N → ok_X5_addStation  M ∧ ok_X6_addStation  N ∧ (fv_X5_addStation  M).1 = (fv_X6_addStation  N).1 ∧ Rel ((fv_X5_addStation  M).2) ((fv_X6_addStation  N).2)
set_option maxRecDepth 100000 in
set_option maxHeartbeats 4000000 in
theorem law_c0 {Q : pl_Q} {X : ps_X Unit} (C : ps_C (pl_Y Q) X cL_law RL (some .boolean) 10 370 4) {b L : Nat} {xs : Nat → Int32} (hX : pl_scr (pl_Y Q) X b L xs) (hL : L ≤ 2048) (Rel : ps_M → ps_M → Prop) (sm : pl_sim_addStation Rel) {i : Nat} (hi : i + 4 ≤ L) {r : Unit} (k : ∀ M N : ps_M, Rel M N → ps_G (pl_Y Q) X r 899 [(0, .ref b), (1, .ref (Q.2.2.2.1 0)), (2, .ref (Q.2.2.2.2 0)), (3, .int (nI i))] [] (M, N)) (M N : ps_M) (hR : Rel M N) : ps_G (pl_Y Q) X r 156 [(0, .ref b), (1, .ref (Q.2.2.2.1 0)), (2, .ref (Q.2.2.2.2 0)), (3, .int (nI i))] [] (M, N) := by
  obtain ⟨o1, o2, he, hR⟩ := sm M N  hR
  refine gw_aload_n C 157 dL_law_156 1 rfl rfl ?_
  refine gw_cVi C 160 dL_law_157 rfl yv_X5_addStation lk_L_13 [] [] rfl (r0 := ((fv_X5_addStation  M).1, ((fv_X5_addStation  M).2, N))) (pl_cc (Q := Q) (N := N) (ct_X5_addStation (E := (pl_Ec Q N)) (l := ps_l X) M o1)) pl_rc rfl (Nat.le_of_ble_eq_true rfl) (Nat.le_of_ble_eq_true rfl) (Nat.le_of_ble_eq_true rfl) ?_
  refine gw_aload_n C 161 dL_law_160 2 rfl rfl ?_
  refine gw_cVi C 164 dL_law_161 rfl yv_X6_addStation lk_L_17 [] [.int ((fv_X5_addStation  M).1)] rfl (r0 := ((fv_X6_addStation  N).1, ((fv_X5_addStation  M).2, (fv_X6_addStation  N).2))) (pl_cm (Q := Q) (M := ((fv_X5_addStation  M).2)) (ct_X6_addStation (E := (pl_Em Q ((fv_X5_addStation  M).2))) (l := ps_l X) N o2)) pl_rm rfl (Nat.le_of_ble_eq_true rfl) (Nat.le_of_ble_eq_true rfl) (Nat.le_of_ble_eq_true rfl) ?_
  refine gl_iceq C 899 167 dL_law_164 (by decide) he ?_
  exact k _ _ hR
def pl_sim_addClerk (Rel : ps_M → ps_M → Prop) : Prop := ∀ (M N : ps_M) (a1 a2 : Int32), Rel M N → ok_X5_addClerk a1 a2 M ∧ ok_X6_addClerk a1 a2 N ∧ (fv_X5_addClerk a1 a2 M).1 = (fv_X6_addClerk a1 a2 N).1 ∧ Rel ((fv_X5_addClerk a1 a2 M).2) ((fv_X6_addClerk a1 a2 N).2)
set_option maxRecDepth 100000 in
set_option maxHeartbeats 4000000 in
theorem law_c1 {Q : pl_Q} {X : ps_X Unit} (C : ps_C (pl_Y Q) X cL_law RL (some .boolean) 10 370 4) {b L : Nat} {xs : Nat → Int32} (hX : pl_scr (pl_Y Q) X b L xs) (hL : L ≤ 2048) (Rel : ps_M → ps_M → Prop) (sm : pl_sim_addClerk Rel) {i : Nat} (hi : i + 4 ≤ L) {r : Unit} (k : ∀ M N : ps_M, Rel M N → ps_G (pl_Y Q) X r 899 [(0, .ref b), (1, .ref (Q.2.2.2.1 0)), (2, .ref (Q.2.2.2.2 0)), (3, .int (nI i))] [] (M, N)) (M N : ps_M) (hR : Rel M N) : ps_G (pl_Y Q) X r 169 [(0, .ref b), (1, .ref (Q.2.2.2.1 0)), (2, .ref (Q.2.2.2.2 0)), (3, .int (nI i))] [] (M, N) := by
  obtain ⟨o1, o2, he, hR⟩ := sm M N (xs (nI i + nI 1).toNatClampNeg) (xs (nI i + nI 2).toNatClampNeg) hR
  refine gw_aload_n C 170 dL_law_169 1 rfl rfl ?_
  refine gw_aload_n C 171 dL_law_170 0 rfl rfl ?_
  refine gw_iload_n C 172 dL_law_171 3 rfl rfl ?_
  refine gw_iconst C 173 dL_law_172 (v := nI 1) (by decide) rfl ?_
  refine gw_iadd C 174 dL_law_173 rfl ?_
  refine gl_sld C 175 dL_law_174 rfl hX (pl_ix hL (by omega)) ?_
  refine gw_aload_n C 176 dL_law_175 0 rfl rfl ?_
  refine gw_iload_n C 177 dL_law_176 3 rfl rfl ?_
  refine gw_iconst C 178 dL_law_177 (v := nI 2) (by decide) rfl ?_
  refine gw_iadd C 179 dL_law_178 rfl ?_
  refine gl_sld C 180 dL_law_179 rfl hX (pl_ix hL (by omega)) ?_
  refine gw_cVi C 183 dL_law_180 rfl yv_X5_addClerk lk_L_18 [.int (xs ((nI i) + (nI 1)).toNatClampNeg), .int (xs ((nI i) + (nI 2)).toNatClampNeg)] [] rfl (r0 := ((fv_X5_addClerk (xs ((nI i) + (nI 1)).toNatClampNeg) (xs ((nI i) + (nI 2)).toNatClampNeg) M).1, ((fv_X5_addClerk (xs ((nI i) + (nI 1)).toNatClampNeg) (xs ((nI i) + (nI 2)).toNatClampNeg) M).2, N))) (pl_cc (Q := Q) (N := N) (ct_X5_addClerk (E := (pl_Ec Q N)) (l := ps_l X) (xs ((nI i) + (nI 1)).toNatClampNeg) (xs ((nI i) + (nI 2)).toNatClampNeg) M o1)) pl_rc rfl (Nat.le_of_ble_eq_true rfl) (Nat.le_of_ble_eq_true rfl) (Nat.le_of_ble_eq_true rfl) ?_
  refine gw_aload_n C 184 dL_law_183 2 rfl rfl ?_
  refine gw_aload_n C 185 dL_law_184 0 rfl rfl ?_
  refine gw_iload_n C 186 dL_law_185 3 rfl rfl ?_
  refine gw_iconst C 187 dL_law_186 (v := nI 1) (by decide) rfl ?_
  refine gw_iadd C 188 dL_law_187 rfl ?_
  refine gl_sld C 189 dL_law_188 rfl hX (pl_ix hL (by omega)) ?_
  refine gw_aload_n C 190 dL_law_189 0 rfl rfl ?_
  refine gw_iload_n C 191 dL_law_190 3 rfl rfl ?_
  refine gw_iconst C 192 dL_law_191 (v := nI 2) (by decide) rfl ?_
  refine gw_iadd C 193 dL_law_192 rfl ?_
  refine gl_sld C 194 dL_law_193 rfl hX (pl_ix hL (by omega)) ?_
  refine gw_cVi C 197 dL_law_194 rfl yv_X6_addClerk lk_L_22 [.int (xs ((nI i) + (nI 1)).toNatClampNeg), .int (xs ((nI i) + (nI 2)).toNatClampNeg)] [.int ((fv_X5_addClerk (xs ((nI i) + (nI 1)).toNatClampNeg) (xs ((nI i) + (nI 2)).toNatClampNeg) M).1)] rfl (r0 := ((fv_X6_addClerk (xs ((nI i) + (nI 1)).toNatClampNeg) (xs ((nI i) + (nI 2)).toNatClampNeg) N).1, ((fv_X5_addClerk (xs ((nI i) + (nI 1)).toNatClampNeg) (xs ((nI i) + (nI 2)).toNatClampNeg) M).2, (fv_X6_addClerk (xs ((nI i) + (nI 1)).toNatClampNeg) (xs ((nI i) + (nI 2)).toNatClampNeg) N).2))) (pl_cm (Q := Q) (M := ((fv_X5_addClerk (xs ((nI i) + (nI 1)).toNatClampNeg) (xs ((nI i) + (nI 2)).toNatClampNeg) M).2)) (ct_X6_addClerk (E := (pl_Em Q ((fv_X5_addClerk (xs ((nI i) + (nI 1)).toNatClampNeg) (xs ((nI i) + (nI 2)).toNatClampNeg) M).2))) (l := ps_l X) (xs ((nI i) + (nI 1)).toNatClampNeg) (xs ((nI i) + (nI 2)).toNatClampNeg) N o2)) pl_rm rfl (Nat.le_of_ble_eq_true rfl) (Nat.le_of_ble_eq_true rfl) (Nat.le_of_ble_eq_true rfl) ?_
  refine gl_iceq C 899 200 dL_law_197 (by decide) he ?_
  exact k _ _ hR
def pl_sim_setArrivals (Rel : ps_M → ps_M → Prop) : Prop := ∀ (M N : ps_M) (a1 a2 a3 : Int32), Rel M N → ok_X5_setArrivals a1 a2 a3 M ∧ ok_X6_setArrivals a1 a2 a3 N ∧ (fv_X5_setArrivals a1 a2 a3 M).1 = (fv_X6_setArrivals a1 a2 a3 N).1 ∧ Rel ((fv_X5_setArrivals a1 a2 a3 M).2) ((fv_X6_setArrivals a1 a2 a3 N).2)
set_option maxRecDepth 100000 in
set_option maxHeartbeats 4000000 in
theorem law_c2 {Q : pl_Q} {X : ps_X Unit} (C : ps_C (pl_Y Q) X cL_law RL (some .boolean) 10 370 4) {b L : Nat} {xs : Nat → Int32} (hX : pl_scr (pl_Y Q) X b L xs) (hL : L ≤ 2048) (Rel : ps_M → ps_M → Prop) (sm : pl_sim_setArrivals Rel) {i : Nat} (hi : i + 4 ≤ L) {r : Unit} (k : ∀ M N : ps_M, Rel M N → ps_G (pl_Y Q) X r 899 [(0, .ref b), (1, .ref (Q.2.2.2.1 0)), (2, .ref (Q.2.2.2.2 0)), (3, .int (nI i))] [] (M, N)) (M N : ps_M) (hR : Rel M N) : ps_G (pl_Y Q) X r 202 [(0, .ref b), (1, .ref (Q.2.2.2.1 0)), (2, .ref (Q.2.2.2.2 0)), (3, .int (nI i))] [] (M, N) := by
  obtain ⟨o1, o2, he, hR⟩ := sm M N (xs (nI i + nI 1).toNatClampNeg) (xs (nI i + nI 2).toNatClampNeg) (xs (nI i + nI 3).toNatClampNeg) hR
  refine gw_aload_n C 203 dL_law_202 1 rfl rfl ?_
  refine gw_aload_n C 204 dL_law_203 0 rfl rfl ?_
  refine gw_iload_n C 205 dL_law_204 3 rfl rfl ?_
  refine gw_iconst C 206 dL_law_205 (v := nI 1) (by decide) rfl ?_
  refine gw_iadd C 207 dL_law_206 rfl ?_
  refine gl_sld C 208 dL_law_207 rfl hX (pl_ix hL (by omega)) ?_
  refine gw_aload_n C 209 dL_law_208 0 rfl rfl ?_
  refine gw_iload_n C 210 dL_law_209 3 rfl rfl ?_
  refine gw_iconst C 211 dL_law_210 (v := nI 2) (by decide) rfl ?_
  refine gw_iadd C 212 dL_law_211 rfl ?_
  refine gl_sld C 213 dL_law_212 rfl hX (pl_ix hL (by omega)) ?_
  refine gw_aload_n C 214 dL_law_213 0 rfl rfl ?_
  refine gw_iload_n C 215 dL_law_214 3 rfl rfl ?_
  refine gw_iconst C 216 dL_law_215 (v := nI 3) (by decide) rfl ?_
  refine gw_iadd C 217 dL_law_216 rfl ?_
  refine gl_sld C 218 dL_law_217 rfl hX (pl_ix hL (by omega)) ?_
  refine gw_cVi C 221 dL_law_218 rfl yv_X5_setArrivals lk_L_23 [.int (xs ((nI i) + (nI 1)).toNatClampNeg), .int (xs ((nI i) + (nI 2)).toNatClampNeg), .int (xs ((nI i) + (nI 3)).toNatClampNeg)] [] rfl (r0 := ((fv_X5_setArrivals (xs ((nI i) + (nI 1)).toNatClampNeg) (xs ((nI i) + (nI 2)).toNatClampNeg) (xs ((nI i) + (nI 3)).toNatClampNeg) M).1, ((fv_X5_setArrivals (xs ((nI i) + (nI 1)).toNatClampNeg) (xs ((nI i) + (nI 2)).toNatClampNeg) (xs ((nI i) + (nI 3)).toNatClampNeg) M).2, N))) (pl_cc (Q := Q) (N := N) (ct_X5_setArrivals (E := (pl_Ec Q N)) (l := ps_l X) (xs ((nI i) + (nI 1)).toNatClampNeg) (xs ((nI i) + (nI 2)).toNatClampNeg) (xs ((nI i) + (nI 3)).toNatClampNeg) M o1)) pl_rc rfl (Nat.le_of_ble_eq_true rfl) (Nat.le_of_ble_eq_true rfl) (Nat.le_of_ble_eq_true rfl) ?_
  refine gw_aload_n C 222 dL_law_221 2 rfl rfl ?_
  refine gw_aload_n C 223 dL_law_222 0 rfl rfl ?_
  refine gw_iload_n C 224 dL_law_223 3 rfl rfl ?_
  refine gw_iconst C 225 dL_law_224 (v := nI 1) (by decide) rfl ?_
  refine gw_iadd C 226 dL_law_225 rfl ?_
  refine gl_sld C 227 dL_law_226 rfl hX (pl_ix hL (by omega)) ?_
  refine gw_aload_n C 228 dL_law_227 0 rfl rfl ?_
  refine gw_iload_n C 229 dL_law_228 3 rfl rfl ?_
  refine gw_iconst C 230 dL_law_229 (v := nI 2) (by decide) rfl ?_
  refine gw_iadd C 231 dL_law_230 rfl ?_
  refine gl_sld C 232 dL_law_231 rfl hX (pl_ix hL (by omega)) ?_
  refine gw_aload_n C 233 dL_law_232 0 rfl rfl ?_
  refine gw_iload_n C 234 dL_law_233 3 rfl rfl ?_
  refine gw_iconst C 235 dL_law_234 (v := nI 3) (by decide) rfl ?_
  refine gw_iadd C 236 dL_law_235 rfl ?_
  refine gl_sld C 237 dL_law_236 rfl hX (pl_ix hL (by omega)) ?_
  refine gw_cVi C 240 dL_law_237 rfl yv_X6_setArrivals lk_L_27 [.int (xs ((nI i) + (nI 1)).toNatClampNeg), .int (xs ((nI i) + (nI 2)).toNatClampNeg), .int (xs ((nI i) + (nI 3)).toNatClampNeg)] [.int ((fv_X5_setArrivals (xs ((nI i) + (nI 1)).toNatClampNeg) (xs ((nI i) + (nI 2)).toNatClampNeg) (xs ((nI i) + (nI 3)).toNatClampNeg) M).1)] rfl (r0 := ((fv_X6_setArrivals (xs ((nI i) + (nI 1)).toNatClampNeg) (xs ((nI i) + (nI 2)).toNatClampNeg) (xs ((nI i) + (nI 3)).toNatClampNeg) N).1, ((fv_X5_setArrivals (xs ((nI i) + (nI 1)).toNatClampNeg) (xs ((nI i) + (nI 2)).toNatClampNeg) (xs ((nI i) + (nI 3)).toNatClampNeg) M).2, (fv_X6_setArrivals (xs ((nI i) + (nI 1)).toNatClampNeg) (xs ((nI i) + (nI 2)).toNatClampNeg) (xs ((nI i) + (nI 3)).toNatClampNeg) N).2))) (pl_cm (Q := Q) (M := ((fv_X5_setArrivals (xs ((nI i) + (nI 1)).toNatClampNeg) (xs ((nI i) + (nI 2)).toNatClampNeg) (xs ((nI i) + (nI 3)).toNatClampNeg) M).2)) (ct_X6_setArrivals (E := (pl_Em Q ((fv_X5_setArrivals (xs ((nI i) + (nI 1)).toNatClampNeg) (xs ((nI i) + (nI 2)).toNatClampNeg) (xs ((nI i) + (nI 3)).toNatClampNeg) M).2))) (l := ps_l X) (xs ((nI i) + (nI 1)).toNatClampNeg) (xs ((nI i) + (nI 2)).toNatClampNeg) (xs ((nI i) + (nI 3)).toNatClampNeg) N o2)) pl_rm rfl (Nat.le_of_ble_eq_true rfl) (Nat.le_of_ble_eq_true rfl) (Nat.le_of_ble_eq_true rfl) ?_
  refine gl_iceq C 899 243 dL_law_240 (by decide) he ?_
  exact k _ _ hR
def pl_sim_assign (Rel : ps_M → ps_M → Prop) : Prop := ∀ (M N : ps_M) (a1 a2 : Int32), Rel M N → ok_X5_assign a1 a2 M ∧ ok_X6_assign a1 a2 N ∧ (fv_X5_assign a1 a2 M).1 = (fv_X6_assign a1 a2 N).1 ∧ Rel ((fv_X5_assign a1 a2 M).2) ((fv_X6_assign a1 a2 N).2)
set_option maxRecDepth 100000 in
set_option maxHeartbeats 4000000 in
theorem law_c3 {Q : pl_Q} {X : ps_X Unit} (C : ps_C (pl_Y Q) X cL_law RL (some .boolean) 10 370 4) {b L : Nat} {xs : Nat → Int32} (hX : pl_scr (pl_Y Q) X b L xs) (hL : L ≤ 2048) (Rel : ps_M → ps_M → Prop) (sm : pl_sim_assign Rel) {i : Nat} (hi : i + 4 ≤ L) {r : Unit} (k : ∀ M N : ps_M, Rel M N → ps_G (pl_Y Q) X r 899 [(0, .ref b), (1, .ref (Q.2.2.2.1 0)), (2, .ref (Q.2.2.2.2 0)), (3, .int (nI i))] [] (M, N)) (M N : ps_M) (hR : Rel M N) : ps_G (pl_Y Q) X r 245 [(0, .ref b), (1, .ref (Q.2.2.2.1 0)), (2, .ref (Q.2.2.2.2 0)), (3, .int (nI i))] [] (M, N) := by
  obtain ⟨o1, o2, he, hR⟩ := sm M N (xs (nI i + nI 1).toNatClampNeg) (xs (nI i + nI 2).toNatClampNeg) hR
  refine gw_aload_n C 246 dL_law_245 1 rfl rfl ?_
  refine gw_aload_n C 247 dL_law_246 0 rfl rfl ?_
  refine gw_iload_n C 248 dL_law_247 3 rfl rfl ?_
  refine gw_iconst C 249 dL_law_248 (v := nI 1) (by decide) rfl ?_
  refine gw_iadd C 250 dL_law_249 rfl ?_
  refine gl_sld C 251 dL_law_250 rfl hX (pl_ix hL (by omega)) ?_
  refine gw_aload_n C 252 dL_law_251 0 rfl rfl ?_
  refine gw_iload_n C 253 dL_law_252 3 rfl rfl ?_
  refine gw_iconst C 254 dL_law_253 (v := nI 2) (by decide) rfl ?_
  refine gw_iadd C 255 dL_law_254 rfl ?_
  refine gl_sld C 256 dL_law_255 rfl hX (pl_ix hL (by omega)) ?_
  refine gw_cVi C 259 dL_law_256 rfl yv_X5_assign lk_L_28 [.int (xs ((nI i) + (nI 1)).toNatClampNeg), .int (xs ((nI i) + (nI 2)).toNatClampNeg)] [] rfl (r0 := ((fv_X5_assign (xs ((nI i) + (nI 1)).toNatClampNeg) (xs ((nI i) + (nI 2)).toNatClampNeg) M).1, ((fv_X5_assign (xs ((nI i) + (nI 1)).toNatClampNeg) (xs ((nI i) + (nI 2)).toNatClampNeg) M).2, N))) (pl_cc (Q := Q) (N := N) (ct_X5_assign (E := (pl_Ec Q N)) (l := ps_l X) (xs ((nI i) + (nI 1)).toNatClampNeg) (xs ((nI i) + (nI 2)).toNatClampNeg) M o1)) pl_rc rfl (Nat.le_of_ble_eq_true rfl) (Nat.le_of_ble_eq_true rfl) (Nat.le_of_ble_eq_true rfl) ?_
  refine gw_aload_n C 260 dL_law_259 2 rfl rfl ?_
  refine gw_aload_n C 261 dL_law_260 0 rfl rfl ?_
  refine gw_iload_n C 262 dL_law_261 3 rfl rfl ?_
  refine gw_iconst C 263 dL_law_262 (v := nI 1) (by decide) rfl ?_
  refine gw_iadd C 264 dL_law_263 rfl ?_
  refine gl_sld C 265 dL_law_264 rfl hX (pl_ix hL (by omega)) ?_
  refine gw_aload_n C 266 dL_law_265 0 rfl rfl ?_
  refine gw_iload_n C 267 dL_law_266 3 rfl rfl ?_
  refine gw_iconst C 268 dL_law_267 (v := nI 2) (by decide) rfl ?_
  refine gw_iadd C 269 dL_law_268 rfl ?_
  refine gl_sld C 270 dL_law_269 rfl hX (pl_ix hL (by omega)) ?_
  refine gw_cVi C 273 dL_law_270 rfl yv_X6_assign lk_L_31 [.int (xs ((nI i) + (nI 1)).toNatClampNeg), .int (xs ((nI i) + (nI 2)).toNatClampNeg)] [.int ((fv_X5_assign (xs ((nI i) + (nI 1)).toNatClampNeg) (xs ((nI i) + (nI 2)).toNatClampNeg) M).1)] rfl (r0 := ((fv_X6_assign (xs ((nI i) + (nI 1)).toNatClampNeg) (xs ((nI i) + (nI 2)).toNatClampNeg) N).1, ((fv_X5_assign (xs ((nI i) + (nI 1)).toNatClampNeg) (xs ((nI i) + (nI 2)).toNatClampNeg) M).2, (fv_X6_assign (xs ((nI i) + (nI 1)).toNatClampNeg) (xs ((nI i) + (nI 2)).toNatClampNeg) N).2))) (pl_cm (Q := Q) (M := ((fv_X5_assign (xs ((nI i) + (nI 1)).toNatClampNeg) (xs ((nI i) + (nI 2)).toNatClampNeg) M).2)) (ct_X6_assign (E := (pl_Em Q ((fv_X5_assign (xs ((nI i) + (nI 1)).toNatClampNeg) (xs ((nI i) + (nI 2)).toNatClampNeg) M).2))) (l := ps_l X) (xs ((nI i) + (nI 1)).toNatClampNeg) (xs ((nI i) + (nI 2)).toNatClampNeg) N o2)) pl_rm rfl (Nat.le_of_ble_eq_true rfl) (Nat.le_of_ble_eq_true rfl) (Nat.le_of_ble_eq_true rfl) ?_
  refine gl_iceq C 899 276 dL_law_273 (by decide) he ?_
  exact k _ _ hR
def pl_sim_relieve (Rel : ps_M → ps_M → Prop) : Prop := ∀ (M N : ps_M) (a1 : Int32), Rel M N → ok_X5_relieve a1 M ∧ ok_X6_relieve a1 N ∧ (fv_X5_relieve a1 M).1 = (fv_X6_relieve a1 N).1 ∧ Rel ((fv_X5_relieve a1 M).2) ((fv_X6_relieve a1 N).2)
set_option maxRecDepth 100000 in
set_option maxHeartbeats 4000000 in
theorem law_c4 {Q : pl_Q} {X : ps_X Unit} (C : ps_C (pl_Y Q) X cL_law RL (some .boolean) 10 370 4) {b L : Nat} {xs : Nat → Int32} (hX : pl_scr (pl_Y Q) X b L xs) (hL : L ≤ 2048) (Rel : ps_M → ps_M → Prop) (sm : pl_sim_relieve Rel) {i : Nat} (hi : i + 4 ≤ L) {r : Unit} (k : ∀ M N : ps_M, Rel M N → ps_G (pl_Y Q) X r 899 [(0, .ref b), (1, .ref (Q.2.2.2.1 0)), (2, .ref (Q.2.2.2.2 0)), (3, .int (nI i))] [] (M, N)) (M N : ps_M) (hR : Rel M N) : ps_G (pl_Y Q) X r 278 [(0, .ref b), (1, .ref (Q.2.2.2.1 0)), (2, .ref (Q.2.2.2.2 0)), (3, .int (nI i))] [] (M, N) := by
  obtain ⟨o1, o2, he, hR⟩ := sm M N (xs (nI i + nI 1).toNatClampNeg) hR
  refine gw_aload_n C 279 dL_law_278 1 rfl rfl ?_
  refine gw_aload_n C 280 dL_law_279 0 rfl rfl ?_
  refine gw_iload_n C 281 dL_law_280 3 rfl rfl ?_
  refine gw_iconst C 282 dL_law_281 (v := nI 1) (by decide) rfl ?_
  refine gw_iadd C 283 dL_law_282 rfl ?_
  refine gl_sld C 284 dL_law_283 rfl hX (pl_ix hL (by omega)) ?_
  refine gw_cVi C 287 dL_law_284 rfl yv_X5_relieve lk_L_32 [.int (xs ((nI i) + (nI 1)).toNatClampNeg)] [] rfl (r0 := ((fv_X5_relieve (xs ((nI i) + (nI 1)).toNatClampNeg) M).1, ((fv_X5_relieve (xs ((nI i) + (nI 1)).toNatClampNeg) M).2, N))) (pl_cc (Q := Q) (N := N) (ct_X5_relieve (E := (pl_Ec Q N)) (l := ps_l X) (xs ((nI i) + (nI 1)).toNatClampNeg) M o1)) pl_rc rfl (Nat.le_of_ble_eq_true rfl) (Nat.le_of_ble_eq_true rfl) (Nat.le_of_ble_eq_true rfl) ?_
  refine gw_aload_n C 288 dL_law_287 2 rfl rfl ?_
  refine gw_aload_n C 289 dL_law_288 0 rfl rfl ?_
  refine gw_iload_n C 290 dL_law_289 3 rfl rfl ?_
  refine gw_iconst C 291 dL_law_290 (v := nI 1) (by decide) rfl ?_
  refine gw_iadd C 292 dL_law_291 rfl ?_
  refine gl_sld C 293 dL_law_292 rfl hX (pl_ix hL (by omega)) ?_
  refine gw_cVi C 296 dL_law_293 rfl yv_X6_relieve lk_L_36 [.int (xs ((nI i) + (nI 1)).toNatClampNeg)] [.int ((fv_X5_relieve (xs ((nI i) + (nI 1)).toNatClampNeg) M).1)] rfl (r0 := ((fv_X6_relieve (xs ((nI i) + (nI 1)).toNatClampNeg) N).1, ((fv_X5_relieve (xs ((nI i) + (nI 1)).toNatClampNeg) M).2, (fv_X6_relieve (xs ((nI i) + (nI 1)).toNatClampNeg) N).2))) (pl_cm (Q := Q) (M := ((fv_X5_relieve (xs ((nI i) + (nI 1)).toNatClampNeg) M).2)) (ct_X6_relieve (E := (pl_Em Q ((fv_X5_relieve (xs ((nI i) + (nI 1)).toNatClampNeg) M).2))) (l := ps_l X) (xs ((nI i) + (nI 1)).toNatClampNeg) N o2)) pl_rm rfl (Nat.le_of_ble_eq_true rfl) (Nat.le_of_ble_eq_true rfl) (Nat.le_of_ble_eq_true rfl) ?_
  refine gl_iceq C 899 299 dL_law_296 (by decide) he ?_
  exact k _ _ hR
def pl_sim_pass (Rel : ps_M → ps_M → Prop) : Prop := ∀ (M N : ps_M) (a1 : Int32), Rel M N → ok_X5_pass a1 M ∧ ok_X6_pass a1 N ∧ (fv_X5_pass a1 M).1 = (fv_X6_pass a1 N).1 ∧ Rel ((fv_X5_pass a1 M).2) ((fv_X6_pass a1 N).2)
set_option maxRecDepth 100000 in
set_option maxHeartbeats 4000000 in
theorem law_c5 {Q : pl_Q} {X : ps_X Unit} (C : ps_C (pl_Y Q) X cL_law RL (some .boolean) 10 370 4) {b L : Nat} {xs : Nat → Int32} (hX : pl_scr (pl_Y Q) X b L xs) (hL : L ≤ 2048) (Rel : ps_M → ps_M → Prop) (sm : pl_sim_pass Rel) {i : Nat} (hi : i + 4 ≤ L) {r : Unit} (k : ∀ M N : ps_M, Rel M N → ps_G (pl_Y Q) X r 899 [(0, .ref b), (1, .ref (Q.2.2.2.1 0)), (2, .ref (Q.2.2.2.2 0)), (3, .int (nI i))] [] (M, N)) (M N : ps_M) (hR : Rel M N) : ps_G (pl_Y Q) X r 301 [(0, .ref b), (1, .ref (Q.2.2.2.1 0)), (2, .ref (Q.2.2.2.2 0)), (3, .int (nI i))] [] (M, N) := by
  obtain ⟨o1, o2, he, hR⟩ := sm M N (xs (nI i + nI 1).toNatClampNeg) hR
  refine gw_aload_n C 302 dL_law_301 1 rfl rfl ?_
  refine gw_aload_n C 303 dL_law_302 0 rfl rfl ?_
  refine gw_iload_n C 304 dL_law_303 3 rfl rfl ?_
  refine gw_iconst C 305 dL_law_304 (v := nI 1) (by decide) rfl ?_
  refine gw_iadd C 306 dL_law_305 rfl ?_
  refine gl_sld C 307 dL_law_306 rfl hX (pl_ix hL (by omega)) ?_
  refine gw_cVi C 310 dL_law_307 rfl yv_X5_pass lk_L_37 [.int (xs ((nI i) + (nI 1)).toNatClampNeg)] [] rfl (r0 := ((fv_X5_pass (xs ((nI i) + (nI 1)).toNatClampNeg) M).1, ((fv_X5_pass (xs ((nI i) + (nI 1)).toNatClampNeg) M).2, N))) (pl_cc (Q := Q) (N := N) (ct_X5_pass (E := (pl_Ec Q N)) (l := ps_l X) (xs ((nI i) + (nI 1)).toNatClampNeg) M o1)) pl_rc rfl (Nat.le_of_ble_eq_true rfl) (Nat.le_of_ble_eq_true rfl) (Nat.le_of_ble_eq_true rfl) ?_
  refine gw_aload_n C 311 dL_law_310 2 rfl rfl ?_
  refine gw_aload_n C 312 dL_law_311 0 rfl rfl ?_
  refine gw_iload_n C 313 dL_law_312 3 rfl rfl ?_
  refine gw_iconst C 314 dL_law_313 (v := nI 1) (by decide) rfl ?_
  refine gw_iadd C 315 dL_law_314 rfl ?_
  refine gl_sld C 316 dL_law_315 rfl hX (pl_ix hL (by omega)) ?_
  refine gw_cVi C 319 dL_law_316 rfl yv_X6_pass lk_L_40 [.int (xs ((nI i) + (nI 1)).toNatClampNeg)] [.int ((fv_X5_pass (xs ((nI i) + (nI 1)).toNatClampNeg) M).1)] rfl (r0 := ((fv_X6_pass (xs ((nI i) + (nI 1)).toNatClampNeg) N).1, ((fv_X5_pass (xs ((nI i) + (nI 1)).toNatClampNeg) M).2, (fv_X6_pass (xs ((nI i) + (nI 1)).toNatClampNeg) N).2))) (pl_cm (Q := Q) (M := ((fv_X5_pass (xs ((nI i) + (nI 1)).toNatClampNeg) M).2)) (ct_X6_pass (E := (pl_Em Q ((fv_X5_pass (xs ((nI i) + (nI 1)).toNatClampNeg) M).2))) (l := ps_l X) (xs ((nI i) + (nI 1)).toNatClampNeg) N o2)) pl_rm rfl (Nat.le_of_ble_eq_true rfl) (Nat.le_of_ble_eq_true rfl) (Nat.le_of_ble_eq_true rfl) ?_
  refine gl_iceq C 899 322 dL_law_319 (by decide) he ?_
  exact k _ _ hR
def pl_sim_supply (Rel : ps_M → ps_M → Prop) : Prop := ∀ (M N : ps_M) (a1 a2 : Int32), Rel M N → ok_X5_supply a1 a2 M ∧ ok_X6_supply a1 a2 N ∧ (fv_X5_supply a1 a2 M).1 = (fv_X6_supply a1 a2 N).1 ∧ Rel ((fv_X5_supply a1 a2 M).2) ((fv_X6_supply a1 a2 N).2)
set_option maxRecDepth 100000 in
set_option maxHeartbeats 4000000 in
theorem law_c6 {Q : pl_Q} {X : ps_X Unit} (C : ps_C (pl_Y Q) X cL_law RL (some .boolean) 10 370 4) {b L : Nat} {xs : Nat → Int32} (hX : pl_scr (pl_Y Q) X b L xs) (hL : L ≤ 2048) (Rel : ps_M → ps_M → Prop) (sm : pl_sim_supply Rel) {i : Nat} (hi : i + 4 ≤ L) {r : Unit} (k : ∀ M N : ps_M, Rel M N → ps_G (pl_Y Q) X r 899 [(0, .ref b), (1, .ref (Q.2.2.2.1 0)), (2, .ref (Q.2.2.2.2 0)), (3, .int (nI i))] [] (M, N)) (M N : ps_M) (hR : Rel M N) : ps_G (pl_Y Q) X r 324 [(0, .ref b), (1, .ref (Q.2.2.2.1 0)), (2, .ref (Q.2.2.2.2 0)), (3, .int (nI i))] [] (M, N) := by
  obtain ⟨o1, o2, he, hR⟩ := sm M N (xs (nI i + nI 1).toNatClampNeg) (xs (nI i + nI 2).toNatClampNeg) hR
  refine gw_aload_n C 325 dL_law_324 1 rfl rfl ?_
  refine gw_aload_n C 326 dL_law_325 0 rfl rfl ?_
  refine gw_iload_n C 327 dL_law_326 3 rfl rfl ?_
  refine gw_iconst C 328 dL_law_327 (v := nI 1) (by decide) rfl ?_
  refine gw_iadd C 329 dL_law_328 rfl ?_
  refine gl_sld C 330 dL_law_329 rfl hX (pl_ix hL (by omega)) ?_
  refine gw_aload_n C 331 dL_law_330 0 rfl rfl ?_
  refine gw_iload_n C 332 dL_law_331 3 rfl rfl ?_
  refine gw_iconst C 333 dL_law_332 (v := nI 2) (by decide) rfl ?_
  refine gw_iadd C 334 dL_law_333 rfl ?_
  refine gl_sld C 335 dL_law_334 rfl hX (pl_ix hL (by omega)) ?_
  refine gw_cVi C 338 dL_law_335 rfl yv_X5_supply lk_L_41 [.int (xs ((nI i) + (nI 1)).toNatClampNeg), .int (xs ((nI i) + (nI 2)).toNatClampNeg)] [] rfl (r0 := ((fv_X5_supply (xs ((nI i) + (nI 1)).toNatClampNeg) (xs ((nI i) + (nI 2)).toNatClampNeg) M).1, ((fv_X5_supply (xs ((nI i) + (nI 1)).toNatClampNeg) (xs ((nI i) + (nI 2)).toNatClampNeg) M).2, N))) (pl_cc (Q := Q) (N := N) (ct_X5_supply (E := (pl_Ec Q N)) (l := ps_l X) (xs ((nI i) + (nI 1)).toNatClampNeg) (xs ((nI i) + (nI 2)).toNatClampNeg) M o1)) pl_rc rfl (Nat.le_of_ble_eq_true rfl) (Nat.le_of_ble_eq_true rfl) (Nat.le_of_ble_eq_true rfl) ?_
  refine gw_aload_n C 339 dL_law_338 2 rfl rfl ?_
  refine gw_aload_n C 340 dL_law_339 0 rfl rfl ?_
  refine gw_iload_n C 341 dL_law_340 3 rfl rfl ?_
  refine gw_iconst C 342 dL_law_341 (v := nI 1) (by decide) rfl ?_
  refine gw_iadd C 343 dL_law_342 rfl ?_
  refine gl_sld C 344 dL_law_343 rfl hX (pl_ix hL (by omega)) ?_
  refine gw_aload_n C 345 dL_law_344 0 rfl rfl ?_
  refine gw_iload_n C 346 dL_law_345 3 rfl rfl ?_
  refine gw_iconst C 347 dL_law_346 (v := nI 2) (by decide) rfl ?_
  refine gw_iadd C 348 dL_law_347 rfl ?_
  refine gl_sld C 349 dL_law_348 rfl hX (pl_ix hL (by omega)) ?_
  refine gw_cVi C 352 dL_law_349 rfl yv_X6_supply lk_L_44 [.int (xs ((nI i) + (nI 1)).toNatClampNeg), .int (xs ((nI i) + (nI 2)).toNatClampNeg)] [.int ((fv_X5_supply (xs ((nI i) + (nI 1)).toNatClampNeg) (xs ((nI i) + (nI 2)).toNatClampNeg) M).1)] rfl (r0 := ((fv_X6_supply (xs ((nI i) + (nI 1)).toNatClampNeg) (xs ((nI i) + (nI 2)).toNatClampNeg) N).1, ((fv_X5_supply (xs ((nI i) + (nI 1)).toNatClampNeg) (xs ((nI i) + (nI 2)).toNatClampNeg) M).2, (fv_X6_supply (xs ((nI i) + (nI 1)).toNatClampNeg) (xs ((nI i) + (nI 2)).toNatClampNeg) N).2))) (pl_cm (Q := Q) (M := ((fv_X5_supply (xs ((nI i) + (nI 1)).toNatClampNeg) (xs ((nI i) + (nI 2)).toNatClampNeg) M).2)) (ct_X6_supply (E := (pl_Em Q ((fv_X5_supply (xs ((nI i) + (nI 1)).toNatClampNeg) (xs ((nI i) + (nI 2)).toNatClampNeg) M).2))) (l := ps_l X) (xs ((nI i) + (nI 1)).toNatClampNeg) (xs ((nI i) + (nI 2)).toNatClampNeg) N o2)) pl_rm rfl (Nat.le_of_ble_eq_true rfl) (Nat.le_of_ble_eq_true rfl) (Nat.le_of_ble_eq_true rfl) ?_
  refine gl_iceq C 899 355 dL_law_352 (by decide) he ?_
  exact k _ _ hR
def pl_sim_movePapers (Rel : ps_M → ps_M → Prop) : Prop := ∀ (M N : ps_M) (a1 a2 a3 : Int32), Rel M N → ok_X5_movePapers a1 a2 a3 M ∧ ok_X6_movePapers a1 a2 a3 N ∧ (fv_X5_movePapers a1 a2 a3 M).1 = (fv_X6_movePapers a1 a2 a3 N).1 ∧ Rel ((fv_X5_movePapers a1 a2 a3 M).2) ((fv_X6_movePapers a1 a2 a3 N).2)
set_option maxRecDepth 100000 in
set_option maxHeartbeats 4000000 in
theorem law_c7 {Q : pl_Q} {X : ps_X Unit} (C : ps_C (pl_Y Q) X cL_law RL (some .boolean) 10 370 4) {b L : Nat} {xs : Nat → Int32} (hX : pl_scr (pl_Y Q) X b L xs) (hL : L ≤ 2048) (Rel : ps_M → ps_M → Prop) (sm : pl_sim_movePapers Rel) {i : Nat} (hi : i + 4 ≤ L) {r : Unit} (k : ∀ M N : ps_M, Rel M N → ps_G (pl_Y Q) X r 899 [(0, .ref b), (1, .ref (Q.2.2.2.1 0)), (2, .ref (Q.2.2.2.2 0)), (3, .int (nI i))] [] (M, N)) (M N : ps_M) (hR : Rel M N) : ps_G (pl_Y Q) X r 357 [(0, .ref b), (1, .ref (Q.2.2.2.1 0)), (2, .ref (Q.2.2.2.2 0)), (3, .int (nI i))] [] (M, N) := by
  obtain ⟨o1, o2, he, hR⟩ := sm M N (xs (nI i + nI 1).toNatClampNeg) (xs (nI i + nI 2).toNatClampNeg) (xs (nI i + nI 3).toNatClampNeg) hR
  refine gw_aload_n C 358 dL_law_357 1 rfl rfl ?_
  refine gw_aload_n C 359 dL_law_358 0 rfl rfl ?_
  refine gw_iload_n C 360 dL_law_359 3 rfl rfl ?_
  refine gw_iconst C 361 dL_law_360 (v := nI 1) (by decide) rfl ?_
  refine gw_iadd C 362 dL_law_361 rfl ?_
  refine gl_sld C 363 dL_law_362 rfl hX (pl_ix hL (by omega)) ?_
  refine gw_aload_n C 364 dL_law_363 0 rfl rfl ?_
  refine gw_iload_n C 365 dL_law_364 3 rfl rfl ?_
  refine gw_iconst C 366 dL_law_365 (v := nI 2) (by decide) rfl ?_
  refine gw_iadd C 367 dL_law_366 rfl ?_
  refine gl_sld C 368 dL_law_367 rfl hX (pl_ix hL (by omega)) ?_
  refine gw_aload_n C 369 dL_law_368 0 rfl rfl ?_
  refine gw_iload_n C 370 dL_law_369 3 rfl rfl ?_
  refine gw_iconst C 371 dL_law_370 (v := nI 3) (by decide) rfl ?_
  refine gw_iadd C 372 dL_law_371 rfl ?_
  refine gl_sld C 373 dL_law_372 rfl hX (pl_ix hL (by omega)) ?_
  refine gw_cVi C 376 dL_law_373 rfl yv_X5_movePapers lk_L_45 [.int (xs ((nI i) + (nI 1)).toNatClampNeg), .int (xs ((nI i) + (nI 2)).toNatClampNeg), .int (xs ((nI i) + (nI 3)).toNatClampNeg)] [] rfl (r0 := ((fv_X5_movePapers (xs ((nI i) + (nI 1)).toNatClampNeg) (xs ((nI i) + (nI 2)).toNatClampNeg) (xs ((nI i) + (nI 3)).toNatClampNeg) M).1, ((fv_X5_movePapers (xs ((nI i) + (nI 1)).toNatClampNeg) (xs ((nI i) + (nI 2)).toNatClampNeg) (xs ((nI i) + (nI 3)).toNatClampNeg) M).2, N))) (pl_cc (Q := Q) (N := N) (ct_X5_movePapers (E := (pl_Ec Q N)) (l := ps_l X) (xs ((nI i) + (nI 1)).toNatClampNeg) (xs ((nI i) + (nI 2)).toNatClampNeg) (xs ((nI i) + (nI 3)).toNatClampNeg) M o1)) pl_rc rfl (Nat.le_of_ble_eq_true rfl) (Nat.le_of_ble_eq_true rfl) (Nat.le_of_ble_eq_true rfl) ?_
  refine gw_aload_n C 377 dL_law_376 2 rfl rfl ?_
  refine gw_aload_n C 378 dL_law_377 0 rfl rfl ?_
  refine gw_iload_n C 379 dL_law_378 3 rfl rfl ?_
  refine gw_iconst C 380 dL_law_379 (v := nI 1) (by decide) rfl ?_
  refine gw_iadd C 381 dL_law_380 rfl ?_
  refine gl_sld C 382 dL_law_381 rfl hX (pl_ix hL (by omega)) ?_
  refine gw_aload_n C 383 dL_law_382 0 rfl rfl ?_
  refine gw_iload_n C 384 dL_law_383 3 rfl rfl ?_
  refine gw_iconst C 385 dL_law_384 (v := nI 2) (by decide) rfl ?_
  refine gw_iadd C 386 dL_law_385 rfl ?_
  refine gl_sld C 387 dL_law_386 rfl hX (pl_ix hL (by omega)) ?_
  refine gw_aload_n C 388 dL_law_387 0 rfl rfl ?_
  refine gw_iload_n C 389 dL_law_388 3 rfl rfl ?_
  refine gw_iconst C 390 dL_law_389 (v := nI 3) (by decide) rfl ?_
  refine gw_iadd C 391 dL_law_390 rfl ?_
  refine gl_sld C 392 dL_law_391 rfl hX (pl_ix hL (by omega)) ?_
  refine gw_cVi C 395 dL_law_392 rfl yv_X6_movePapers lk_L_48 [.int (xs ((nI i) + (nI 1)).toNatClampNeg), .int (xs ((nI i) + (nI 2)).toNatClampNeg), .int (xs ((nI i) + (nI 3)).toNatClampNeg)] [.int ((fv_X5_movePapers (xs ((nI i) + (nI 1)).toNatClampNeg) (xs ((nI i) + (nI 2)).toNatClampNeg) (xs ((nI i) + (nI 3)).toNatClampNeg) M).1)] rfl (r0 := ((fv_X6_movePapers (xs ((nI i) + (nI 1)).toNatClampNeg) (xs ((nI i) + (nI 2)).toNatClampNeg) (xs ((nI i) + (nI 3)).toNatClampNeg) N).1, ((fv_X5_movePapers (xs ((nI i) + (nI 1)).toNatClampNeg) (xs ((nI i) + (nI 2)).toNatClampNeg) (xs ((nI i) + (nI 3)).toNatClampNeg) M).2, (fv_X6_movePapers (xs ((nI i) + (nI 1)).toNatClampNeg) (xs ((nI i) + (nI 2)).toNatClampNeg) (xs ((nI i) + (nI 3)).toNatClampNeg) N).2))) (pl_cm (Q := Q) (M := ((fv_X5_movePapers (xs ((nI i) + (nI 1)).toNatClampNeg) (xs ((nI i) + (nI 2)).toNatClampNeg) (xs ((nI i) + (nI 3)).toNatClampNeg) M).2)) (ct_X6_movePapers (E := (pl_Em Q ((fv_X5_movePapers (xs ((nI i) + (nI 1)).toNatClampNeg) (xs ((nI i) + (nI 2)).toNatClampNeg) (xs ((nI i) + (nI 3)).toNatClampNeg) M).2))) (l := ps_l X) (xs ((nI i) + (nI 1)).toNatClampNeg) (xs ((nI i) + (nI 2)).toNatClampNeg) (xs ((nI i) + (nI 3)).toNatClampNeg) N o2)) pl_rm rfl (Nat.le_of_ble_eq_true rfl) (Nat.le_of_ble_eq_true rfl) (Nat.le_of_ble_eq_true rfl) ?_
  refine gl_iceq C 899 398 dL_law_395 (by decide) he ?_
  exact k _ _ hR
def pl_sim_spoil (Rel : ps_M → ps_M → Prop) : Prop := ∀ (M N : ps_M) (a1 a2 : Int32), Rel M N → ok_X5_spoil a1 a2 M ∧ ok_X6_spoil a1 a2 N ∧ (fv_X5_spoil a1 a2 M).1 = (fv_X6_spoil a1 a2 N).1 ∧ Rel ((fv_X5_spoil a1 a2 M).2) ((fv_X6_spoil a1 a2 N).2)
set_option maxRecDepth 100000 in
set_option maxHeartbeats 4000000 in
theorem law_c8 {Q : pl_Q} {X : ps_X Unit} (C : ps_C (pl_Y Q) X cL_law RL (some .boolean) 10 370 4) {b L : Nat} {xs : Nat → Int32} (hX : pl_scr (pl_Y Q) X b L xs) (hL : L ≤ 2048) (Rel : ps_M → ps_M → Prop) (sm : pl_sim_spoil Rel) {i : Nat} (hi : i + 4 ≤ L) {r : Unit} (k : ∀ M N : ps_M, Rel M N → ps_G (pl_Y Q) X r 899 [(0, .ref b), (1, .ref (Q.2.2.2.1 0)), (2, .ref (Q.2.2.2.2 0)), (3, .int (nI i))] [] (M, N)) (M N : ps_M) (hR : Rel M N) : ps_G (pl_Y Q) X r 400 [(0, .ref b), (1, .ref (Q.2.2.2.1 0)), (2, .ref (Q.2.2.2.2 0)), (3, .int (nI i))] [] (M, N) := by
  obtain ⟨o1, o2, he, hR⟩ := sm M N (xs (nI i + nI 1).toNatClampNeg) (xs (nI i + nI 2).toNatClampNeg) hR
  refine gw_aload_n C 401 dL_law_400 1 rfl rfl ?_
  refine gw_aload_n C 402 dL_law_401 0 rfl rfl ?_
  refine gw_iload_n C 403 dL_law_402 3 rfl rfl ?_
  refine gw_iconst C 404 dL_law_403 (v := nI 1) (by decide) rfl ?_
  refine gw_iadd C 405 dL_law_404 rfl ?_
  refine gl_sld C 406 dL_law_405 rfl hX (pl_ix hL (by omega)) ?_
  refine gw_aload_n C 407 dL_law_406 0 rfl rfl ?_
  refine gw_iload_n C 408 dL_law_407 3 rfl rfl ?_
  refine gw_iconst C 409 dL_law_408 (v := nI 2) (by decide) rfl ?_
  refine gw_iadd C 410 dL_law_409 rfl ?_
  refine gl_sld C 411 dL_law_410 rfl hX (pl_ix hL (by omega)) ?_
  refine gw_cVi C 414 dL_law_411 rfl yv_X5_spoil lk_L_49 [.int (xs ((nI i) + (nI 1)).toNatClampNeg), .int (xs ((nI i) + (nI 2)).toNatClampNeg)] [] rfl (r0 := ((fv_X5_spoil (xs ((nI i) + (nI 1)).toNatClampNeg) (xs ((nI i) + (nI 2)).toNatClampNeg) M).1, ((fv_X5_spoil (xs ((nI i) + (nI 1)).toNatClampNeg) (xs ((nI i) + (nI 2)).toNatClampNeg) M).2, N))) (pl_cc (Q := Q) (N := N) (ct_X5_spoil (E := (pl_Ec Q N)) (l := ps_l X) (xs ((nI i) + (nI 1)).toNatClampNeg) (xs ((nI i) + (nI 2)).toNatClampNeg) M o1)) pl_rc rfl (Nat.le_of_ble_eq_true rfl) (Nat.le_of_ble_eq_true rfl) (Nat.le_of_ble_eq_true rfl) ?_
  refine gw_aload_n C 415 dL_law_414 2 rfl rfl ?_
  refine gw_aload_n C 416 dL_law_415 0 rfl rfl ?_
  refine gw_iload_n C 417 dL_law_416 3 rfl rfl ?_
  refine gw_iconst C 418 dL_law_417 (v := nI 1) (by decide) rfl ?_
  refine gw_iadd C 419 dL_law_418 rfl ?_
  refine gl_sld C 420 dL_law_419 rfl hX (pl_ix hL (by omega)) ?_
  refine gw_aload_n C 421 dL_law_420 0 rfl rfl ?_
  refine gw_iload_n C 422 dL_law_421 3 rfl rfl ?_
  refine gw_iconst C 423 dL_law_422 (v := nI 2) (by decide) rfl ?_
  refine gw_iadd C 424 dL_law_423 rfl ?_
  refine gl_sld C 425 dL_law_424 rfl hX (pl_ix hL (by omega)) ?_
  refine gw_cVi C 428 dL_law_425 rfl yv_X6_spoil lk_L_52 [.int (xs ((nI i) + (nI 1)).toNatClampNeg), .int (xs ((nI i) + (nI 2)).toNatClampNeg)] [.int ((fv_X5_spoil (xs ((nI i) + (nI 1)).toNatClampNeg) (xs ((nI i) + (nI 2)).toNatClampNeg) M).1)] rfl (r0 := ((fv_X6_spoil (xs ((nI i) + (nI 1)).toNatClampNeg) (xs ((nI i) + (nI 2)).toNatClampNeg) N).1, ((fv_X5_spoil (xs ((nI i) + (nI 1)).toNatClampNeg) (xs ((nI i) + (nI 2)).toNatClampNeg) M).2, (fv_X6_spoil (xs ((nI i) + (nI 1)).toNatClampNeg) (xs ((nI i) + (nI 2)).toNatClampNeg) N).2))) (pl_cm (Q := Q) (M := ((fv_X5_spoil (xs ((nI i) + (nI 1)).toNatClampNeg) (xs ((nI i) + (nI 2)).toNatClampNeg) M).2)) (ct_X6_spoil (E := (pl_Em Q ((fv_X5_spoil (xs ((nI i) + (nI 1)).toNatClampNeg) (xs ((nI i) + (nI 2)).toNatClampNeg) M).2))) (l := ps_l X) (xs ((nI i) + (nI 1)).toNatClampNeg) (xs ((nI i) + (nI 2)).toNatClampNeg) N o2)) pl_rm rfl (Nat.le_of_ble_eq_true rfl) (Nat.le_of_ble_eq_true rfl) (Nat.le_of_ble_eq_true rfl) ?_
  refine gl_iceq C 899 431 dL_law_428 (by decide) he ?_
  exact k _ _ hR
def pl_sim_carryOff (Rel : ps_M → ps_M → Prop) : Prop := ∀ (M N : ps_M) (a1 a2 : Int32), Rel M N → ok_X5_carryOff a1 a2 M ∧ ok_X6_carryOff a1 a2 N ∧ (fv_X5_carryOff a1 a2 M).1 = (fv_X6_carryOff a1 a2 N).1 ∧ Rel ((fv_X5_carryOff a1 a2 M).2) ((fv_X6_carryOff a1 a2 N).2)
set_option maxRecDepth 100000 in
set_option maxHeartbeats 4000000 in
theorem law_c9 {Q : pl_Q} {X : ps_X Unit} (C : ps_C (pl_Y Q) X cL_law RL (some .boolean) 10 370 4) {b L : Nat} {xs : Nat → Int32} (hX : pl_scr (pl_Y Q) X b L xs) (hL : L ≤ 2048) (Rel : ps_M → ps_M → Prop) (sm : pl_sim_carryOff Rel) {i : Nat} (hi : i + 4 ≤ L) {r : Unit} (k : ∀ M N : ps_M, Rel M N → ps_G (pl_Y Q) X r 899 [(0, .ref b), (1, .ref (Q.2.2.2.1 0)), (2, .ref (Q.2.2.2.2 0)), (3, .int (nI i))] [] (M, N)) (M N : ps_M) (hR : Rel M N) : ps_G (pl_Y Q) X r 433 [(0, .ref b), (1, .ref (Q.2.2.2.1 0)), (2, .ref (Q.2.2.2.2 0)), (3, .int (nI i))] [] (M, N) := by
  obtain ⟨o1, o2, he, hR⟩ := sm M N (xs (nI i + nI 1).toNatClampNeg) (xs (nI i + nI 2).toNatClampNeg) hR
  refine gw_aload_n C 434 dL_law_433 1 rfl rfl ?_
  refine gw_aload_n C 435 dL_law_434 0 rfl rfl ?_
  refine gw_iload_n C 436 dL_law_435 3 rfl rfl ?_
  refine gw_iconst C 437 dL_law_436 (v := nI 1) (by decide) rfl ?_
  refine gw_iadd C 438 dL_law_437 rfl ?_
  refine gl_sld C 439 dL_law_438 rfl hX (pl_ix hL (by omega)) ?_
  refine gw_aload_n C 440 dL_law_439 0 rfl rfl ?_
  refine gw_iload_n C 441 dL_law_440 3 rfl rfl ?_
  refine gw_iconst C 442 dL_law_441 (v := nI 2) (by decide) rfl ?_
  refine gw_iadd C 443 dL_law_442 rfl ?_
  refine gl_sld C 444 dL_law_443 rfl hX (pl_ix hL (by omega)) ?_
  refine gw_cVi C 447 dL_law_444 rfl yv_X5_carryOff lk_L_53 [.int (xs ((nI i) + (nI 1)).toNatClampNeg), .int (xs ((nI i) + (nI 2)).toNatClampNeg)] [] rfl (r0 := ((fv_X5_carryOff (xs ((nI i) + (nI 1)).toNatClampNeg) (xs ((nI i) + (nI 2)).toNatClampNeg) M).1, ((fv_X5_carryOff (xs ((nI i) + (nI 1)).toNatClampNeg) (xs ((nI i) + (nI 2)).toNatClampNeg) M).2, N))) (pl_cc (Q := Q) (N := N) (ct_X5_carryOff (E := (pl_Ec Q N)) (l := ps_l X) (xs ((nI i) + (nI 1)).toNatClampNeg) (xs ((nI i) + (nI 2)).toNatClampNeg) M o1)) pl_rc rfl (Nat.le_of_ble_eq_true rfl) (Nat.le_of_ble_eq_true rfl) (Nat.le_of_ble_eq_true rfl) ?_
  refine gw_aload_n C 448 dL_law_447 2 rfl rfl ?_
  refine gw_aload_n C 449 dL_law_448 0 rfl rfl ?_
  refine gw_iload_n C 450 dL_law_449 3 rfl rfl ?_
  refine gw_iconst C 451 dL_law_450 (v := nI 1) (by decide) rfl ?_
  refine gw_iadd C 452 dL_law_451 rfl ?_
  refine gl_sld C 453 dL_law_452 rfl hX (pl_ix hL (by omega)) ?_
  refine gw_aload_n C 454 dL_law_453 0 rfl rfl ?_
  refine gw_iload_n C 455 dL_law_454 3 rfl rfl ?_
  refine gw_iconst C 456 dL_law_455 (v := nI 2) (by decide) rfl ?_
  refine gw_iadd C 457 dL_law_456 rfl ?_
  refine gl_sld C 458 dL_law_457 rfl hX (pl_ix hL (by omega)) ?_
  refine gw_cVi C 461 dL_law_458 rfl yv_X6_carryOff lk_L_56 [.int (xs ((nI i) + (nI 1)).toNatClampNeg), .int (xs ((nI i) + (nI 2)).toNatClampNeg)] [.int ((fv_X5_carryOff (xs ((nI i) + (nI 1)).toNatClampNeg) (xs ((nI i) + (nI 2)).toNatClampNeg) M).1)] rfl (r0 := ((fv_X6_carryOff (xs ((nI i) + (nI 1)).toNatClampNeg) (xs ((nI i) + (nI 2)).toNatClampNeg) N).1, ((fv_X5_carryOff (xs ((nI i) + (nI 1)).toNatClampNeg) (xs ((nI i) + (nI 2)).toNatClampNeg) M).2, (fv_X6_carryOff (xs ((nI i) + (nI 1)).toNatClampNeg) (xs ((nI i) + (nI 2)).toNatClampNeg) N).2))) (pl_cm (Q := Q) (M := ((fv_X5_carryOff (xs ((nI i) + (nI 1)).toNatClampNeg) (xs ((nI i) + (nI 2)).toNatClampNeg) M).2)) (ct_X6_carryOff (E := (pl_Em Q ((fv_X5_carryOff (xs ((nI i) + (nI 1)).toNatClampNeg) (xs ((nI i) + (nI 2)).toNatClampNeg) M).2))) (l := ps_l X) (xs ((nI i) + (nI 1)).toNatClampNeg) (xs ((nI i) + (nI 2)).toNatClampNeg) N o2)) pl_rm rfl (Nat.le_of_ble_eq_true rfl) (Nat.le_of_ble_eq_true rfl) (Nat.le_of_ble_eq_true rfl) ?_
  refine gl_iceq C 899 464 dL_law_461 (by decide) he ?_
  exact k _ _ hR
def pl_sim_find (Rel : ps_M → ps_M → Prop) : Prop := ∀ (M N : ps_M) (a1 a2 : Int32), Rel M N → ok_X5_find a1 a2 M ∧ ok_X6_find a1 a2 N ∧ (fv_X5_find a1 a2 M).1 = (fv_X6_find a1 a2 N).1 ∧ Rel ((fv_X5_find a1 a2 M).2) ((fv_X6_find a1 a2 N).2)
set_option maxRecDepth 100000 in
set_option maxHeartbeats 4000000 in
theorem law_c10 {Q : pl_Q} {X : ps_X Unit} (C : ps_C (pl_Y Q) X cL_law RL (some .boolean) 10 370 4) {b L : Nat} {xs : Nat → Int32} (hX : pl_scr (pl_Y Q) X b L xs) (hL : L ≤ 2048) (Rel : ps_M → ps_M → Prop) (sm : pl_sim_find Rel) {i : Nat} (hi : i + 4 ≤ L) {r : Unit} (k : ∀ M N : ps_M, Rel M N → ps_G (pl_Y Q) X r 899 [(0, .ref b), (1, .ref (Q.2.2.2.1 0)), (2, .ref (Q.2.2.2.2 0)), (3, .int (nI i))] [] (M, N)) (M N : ps_M) (hR : Rel M N) : ps_G (pl_Y Q) X r 466 [(0, .ref b), (1, .ref (Q.2.2.2.1 0)), (2, .ref (Q.2.2.2.2 0)), (3, .int (nI i))] [] (M, N) := by
  obtain ⟨o1, o2, he, hR⟩ := sm M N (xs (nI i + nI 1).toNatClampNeg) (xs (nI i + nI 2).toNatClampNeg) hR
  refine gw_aload_n C 467 dL_law_466 1 rfl rfl ?_
  refine gw_aload_n C 468 dL_law_467 0 rfl rfl ?_
  refine gw_iload_n C 469 dL_law_468 3 rfl rfl ?_
  refine gw_iconst C 470 dL_law_469 (v := nI 1) (by decide) rfl ?_
  refine gw_iadd C 471 dL_law_470 rfl ?_
  refine gl_sld C 472 dL_law_471 rfl hX (pl_ix hL (by omega)) ?_
  refine gw_aload_n C 473 dL_law_472 0 rfl rfl ?_
  refine gw_iload_n C 474 dL_law_473 3 rfl rfl ?_
  refine gw_iconst C 475 dL_law_474 (v := nI 2) (by decide) rfl ?_
  refine gw_iadd C 476 dL_law_475 rfl ?_
  refine gl_sld C 477 dL_law_476 rfl hX (pl_ix hL (by omega)) ?_
  refine gw_cVi C 480 dL_law_477 rfl yv_X5_find lk_L_57 [.int (xs ((nI i) + (nI 1)).toNatClampNeg), .int (xs ((nI i) + (nI 2)).toNatClampNeg)] [] rfl (r0 := ((fv_X5_find (xs ((nI i) + (nI 1)).toNatClampNeg) (xs ((nI i) + (nI 2)).toNatClampNeg) M).1, ((fv_X5_find (xs ((nI i) + (nI 1)).toNatClampNeg) (xs ((nI i) + (nI 2)).toNatClampNeg) M).2, N))) (pl_cc (Q := Q) (N := N) (ct_X5_find (E := (pl_Ec Q N)) (l := ps_l X) (xs ((nI i) + (nI 1)).toNatClampNeg) (xs ((nI i) + (nI 2)).toNatClampNeg) M o1)) pl_rc rfl (Nat.le_of_ble_eq_true rfl) (Nat.le_of_ble_eq_true rfl) (Nat.le_of_ble_eq_true rfl) ?_
  refine gw_aload_n C 481 dL_law_480 2 rfl rfl ?_
  refine gw_aload_n C 482 dL_law_481 0 rfl rfl ?_
  refine gw_iload_n C 483 dL_law_482 3 rfl rfl ?_
  refine gw_iconst C 484 dL_law_483 (v := nI 1) (by decide) rfl ?_
  refine gw_iadd C 485 dL_law_484 rfl ?_
  refine gl_sld C 486 dL_law_485 rfl hX (pl_ix hL (by omega)) ?_
  refine gw_aload_n C 487 dL_law_486 0 rfl rfl ?_
  refine gw_iload_n C 488 dL_law_487 3 rfl rfl ?_
  refine gw_iconst C 489 dL_law_488 (v := nI 2) (by decide) rfl ?_
  refine gw_iadd C 490 dL_law_489 rfl ?_
  refine gl_sld C 491 dL_law_490 rfl hX (pl_ix hL (by omega)) ?_
  refine gw_cVi C 494 dL_law_491 rfl yv_X6_find lk_L_60 [.int (xs ((nI i) + (nI 1)).toNatClampNeg), .int (xs ((nI i) + (nI 2)).toNatClampNeg)] [.int ((fv_X5_find (xs ((nI i) + (nI 1)).toNatClampNeg) (xs ((nI i) + (nI 2)).toNatClampNeg) M).1)] rfl (r0 := ((fv_X6_find (xs ((nI i) + (nI 1)).toNatClampNeg) (xs ((nI i) + (nI 2)).toNatClampNeg) N).1, ((fv_X5_find (xs ((nI i) + (nI 1)).toNatClampNeg) (xs ((nI i) + (nI 2)).toNatClampNeg) M).2, (fv_X6_find (xs ((nI i) + (nI 1)).toNatClampNeg) (xs ((nI i) + (nI 2)).toNatClampNeg) N).2))) (pl_cm (Q := Q) (M := ((fv_X5_find (xs ((nI i) + (nI 1)).toNatClampNeg) (xs ((nI i) + (nI 2)).toNatClampNeg) M).2)) (ct_X6_find (E := (pl_Em Q ((fv_X5_find (xs ((nI i) + (nI 1)).toNatClampNeg) (xs ((nI i) + (nI 2)).toNatClampNeg) M).2))) (l := ps_l X) (xs ((nI i) + (nI 1)).toNatClampNeg) (xs ((nI i) + (nI 2)).toNatClampNeg) N o2)) pl_rm rfl (Nat.le_of_ble_eq_true rfl) (Nat.le_of_ble_eq_true rfl) (Nat.le_of_ble_eq_true rfl) ?_
  refine gl_iceq C 899 497 dL_law_494 (by decide) he ?_
  exact k _ _ hR
def pl_sim_countBox (Rel : ps_M → ps_M → Prop) : Prop := ∀ (M N : ps_M) (a1 a2 : Int32), Rel M N → ok_X5_countBox a1 a2 M ∧ ok_X6_countBox a1 a2 N ∧ (fv_X5_countBox a1 a2 M).1 = (fv_X6_countBox a1 a2 N).1 ∧ Rel ((fv_X5_countBox a1 a2 M).2) ((fv_X6_countBox a1 a2 N).2)
set_option maxRecDepth 100000 in
set_option maxHeartbeats 4000000 in
theorem law_c11 {Q : pl_Q} {X : ps_X Unit} (C : ps_C (pl_Y Q) X cL_law RL (some .boolean) 10 370 4) {b L : Nat} {xs : Nat → Int32} (hX : pl_scr (pl_Y Q) X b L xs) (hL : L ≤ 2048) (Rel : ps_M → ps_M → Prop) (sm : pl_sim_countBox Rel) {i : Nat} (hi : i + 4 ≤ L) {r : Unit} (k : ∀ M N : ps_M, Rel M N → ps_G (pl_Y Q) X r 899 [(0, .ref b), (1, .ref (Q.2.2.2.1 0)), (2, .ref (Q.2.2.2.2 0)), (3, .int (nI i))] [] (M, N)) (M N : ps_M) (hR : Rel M N) : ps_G (pl_Y Q) X r 499 [(0, .ref b), (1, .ref (Q.2.2.2.1 0)), (2, .ref (Q.2.2.2.2 0)), (3, .int (nI i))] [] (M, N) := by
  obtain ⟨o1, o2, he, hR⟩ := sm M N (xs (nI i + nI 1).toNatClampNeg) (xs (nI i + nI 2).toNatClampNeg) hR
  refine gw_aload_n C 500 dL_law_499 1 rfl rfl ?_
  refine gw_aload_n C 501 dL_law_500 0 rfl rfl ?_
  refine gw_iload_n C 502 dL_law_501 3 rfl rfl ?_
  refine gw_iconst C 503 dL_law_502 (v := nI 1) (by decide) rfl ?_
  refine gw_iadd C 504 dL_law_503 rfl ?_
  refine gl_sld C 505 dL_law_504 rfl hX (pl_ix hL (by omega)) ?_
  refine gw_aload_n C 506 dL_law_505 0 rfl rfl ?_
  refine gw_iload_n C 507 dL_law_506 3 rfl rfl ?_
  refine gw_iconst C 508 dL_law_507 (v := nI 2) (by decide) rfl ?_
  refine gw_iadd C 509 dL_law_508 rfl ?_
  refine gl_sld C 510 dL_law_509 rfl hX (pl_ix hL (by omega)) ?_
  refine gw_cVi C 513 dL_law_510 rfl yv_X5_countBox lk_L_61 [.int (xs ((nI i) + (nI 1)).toNatClampNeg), .int (xs ((nI i) + (nI 2)).toNatClampNeg)] [] rfl (r0 := ((fv_X5_countBox (xs ((nI i) + (nI 1)).toNatClampNeg) (xs ((nI i) + (nI 2)).toNatClampNeg) M).1, ((fv_X5_countBox (xs ((nI i) + (nI 1)).toNatClampNeg) (xs ((nI i) + (nI 2)).toNatClampNeg) M).2, N))) (pl_cc (Q := Q) (N := N) (ct_X5_countBox (E := (pl_Ec Q N)) (l := ps_l X) (xs ((nI i) + (nI 1)).toNatClampNeg) (xs ((nI i) + (nI 2)).toNatClampNeg) M o1)) pl_rc rfl (Nat.le_of_ble_eq_true rfl) (Nat.le_of_ble_eq_true rfl) (Nat.le_of_ble_eq_true rfl) ?_
  refine gw_aload_n C 514 dL_law_513 2 rfl rfl ?_
  refine gw_aload_n C 515 dL_law_514 0 rfl rfl ?_
  refine gw_iload_n C 516 dL_law_515 3 rfl rfl ?_
  refine gw_iconst C 517 dL_law_516 (v := nI 1) (by decide) rfl ?_
  refine gw_iadd C 518 dL_law_517 rfl ?_
  refine gl_sld C 519 dL_law_518 rfl hX (pl_ix hL (by omega)) ?_
  refine gw_aload_n C 520 dL_law_519 0 rfl rfl ?_
  refine gw_iload_n C 521 dL_law_520 3 rfl rfl ?_
  refine gw_iconst C 522 dL_law_521 (v := nI 2) (by decide) rfl ?_
  refine gw_iadd C 523 dL_law_522 rfl ?_
  refine gl_sld C 524 dL_law_523 rfl hX (pl_ix hL (by omega)) ?_
  refine gw_cVi C 527 dL_law_524 rfl yv_X6_countBox lk_L_64 [.int (xs ((nI i) + (nI 1)).toNatClampNeg), .int (xs ((nI i) + (nI 2)).toNatClampNeg)] [.int ((fv_X5_countBox (xs ((nI i) + (nI 1)).toNatClampNeg) (xs ((nI i) + (nI 2)).toNatClampNeg) M).1)] rfl (r0 := ((fv_X6_countBox (xs ((nI i) + (nI 1)).toNatClampNeg) (xs ((nI i) + (nI 2)).toNatClampNeg) N).1, ((fv_X5_countBox (xs ((nI i) + (nI 1)).toNatClampNeg) (xs ((nI i) + (nI 2)).toNatClampNeg) M).2, (fv_X6_countBox (xs ((nI i) + (nI 1)).toNatClampNeg) (xs ((nI i) + (nI 2)).toNatClampNeg) N).2))) (pl_cm (Q := Q) (M := ((fv_X5_countBox (xs ((nI i) + (nI 1)).toNatClampNeg) (xs ((nI i) + (nI 2)).toNatClampNeg) M).2)) (ct_X6_countBox (E := (pl_Em Q ((fv_X5_countBox (xs ((nI i) + (nI 1)).toNatClampNeg) (xs ((nI i) + (nI 2)).toNatClampNeg) M).2))) (l := ps_l X) (xs ((nI i) + (nI 1)).toNatClampNeg) (xs ((nI i) + (nI 2)).toNatClampNeg) N o2)) pl_rm rfl (Nat.le_of_ble_eq_true rfl) (Nat.le_of_ble_eq_true rfl) (Nat.le_of_ble_eq_true rfl) ?_
  refine gl_iceq C 899 530 dL_law_527 (by decide) he ?_
  exact k _ _ hR
def pl_sim_type (Rel : ps_M → ps_M → Prop) : Prop := ∀ (M N : ps_M) (a1 : Int32), Rel M N → (a1 = (a1.toUInt32 % 65536).toInt32) → ok_X5_type a1 M ∧ ok_X6_type a1 N ∧ (fv_X5_type a1 M).1 = (fv_X6_type a1 N).1 ∧ Rel ((fv_X5_type a1 M).2) ((fv_X6_type a1 N).2)
set_option maxRecDepth 100000 in
set_option maxHeartbeats 4000000 in
theorem law_c12 {Q : pl_Q} {X : ps_X Unit} (C : ps_C (pl_Y Q) X cL_law RL (some .boolean) 10 370 4) {b L : Nat} {xs : Nat → Int32} (hX : pl_scr (pl_Y Q) X b L xs) (hL : L ≤ 2048) (Rel : ps_M → ps_M → Prop) (sm : pl_sim_type Rel) {i : Nat} (hi : i + 4 ≤ L) {r : Unit} (k : ∀ M N : ps_M, Rel M N → ps_G (pl_Y Q) X r 899 [(0, .ref b), (1, .ref (Q.2.2.2.1 0)), (2, .ref (Q.2.2.2.2 0)), (3, .int (nI i))] [] (M, N)) (M N : ps_M) (hR : Rel M N) : ps_G (pl_Y Q) X r 532 [(0, .ref b), (1, .ref (Q.2.2.2.1 0)), (2, .ref (Q.2.2.2.2 0)), (3, .int (nI i))] [] (M, N) := by
  obtain ⟨o1, o2, he, hR⟩ := sm M N ((((xs (nI i + nI 1).toNatClampNeg)).toUInt32 % 65536).toInt32) hR (pl_chr _)
  refine gw_aload_n C 533 dL_law_532 1 rfl rfl ?_
  refine gw_aload_n C 534 dL_law_533 0 rfl rfl ?_
  refine gw_iload_n C 535 dL_law_534 3 rfl rfl ?_
  refine gw_iconst C 536 dL_law_535 (v := nI 1) (by decide) rfl ?_
  refine gw_iadd C 537 dL_law_536 rfl ?_
  refine gl_sld C 538 dL_law_537 rfl hX (pl_ix hL (by omega)) ?_
  refine gw_i2c C 539 dL_law_538 rfl ?_
  refine gw_cVi C 542 dL_law_539 rfl yv_X5_type lk_L_65 [.int ((((xs ((nI i) + (nI 1)).toNatClampNeg)).toUInt32 % 65536).toInt32)] [] rfl (r0 := ((fv_X5_type ((((xs ((nI i) + (nI 1)).toNatClampNeg)).toUInt32 % 65536).toInt32) M).1, ((fv_X5_type ((((xs ((nI i) + (nI 1)).toNatClampNeg)).toUInt32 % 65536).toInt32) M).2, N))) (pl_cc (Q := Q) (N := N) (ct_X5_type (E := (pl_Ec Q N)) (l := ps_l X) ((((xs ((nI i) + (nI 1)).toNatClampNeg)).toUInt32 % 65536).toInt32) M o1)) pl_rc rfl (Nat.le_of_ble_eq_true rfl) (Nat.le_of_ble_eq_true rfl) (Nat.le_of_ble_eq_true rfl) ?_
  refine gw_aload_n C 543 dL_law_542 2 rfl rfl ?_
  refine gw_aload_n C 544 dL_law_543 0 rfl rfl ?_
  refine gw_iload_n C 545 dL_law_544 3 rfl rfl ?_
  refine gw_iconst C 546 dL_law_545 (v := nI 1) (by decide) rfl ?_
  refine gw_iadd C 547 dL_law_546 rfl ?_
  refine gl_sld C 548 dL_law_547 rfl hX (pl_ix hL (by omega)) ?_
  refine gw_i2c C 549 dL_law_548 rfl ?_
  refine gw_cVi C 552 dL_law_549 rfl yv_X6_type lk_L_69 [.int ((((xs ((nI i) + (nI 1)).toNatClampNeg)).toUInt32 % 65536).toInt32)] [.int ((fv_X5_type ((((xs ((nI i) + (nI 1)).toNatClampNeg)).toUInt32 % 65536).toInt32) M).1)] rfl (r0 := ((fv_X6_type ((((xs ((nI i) + (nI 1)).toNatClampNeg)).toUInt32 % 65536).toInt32) N).1, ((fv_X5_type ((((xs ((nI i) + (nI 1)).toNatClampNeg)).toUInt32 % 65536).toInt32) M).2, (fv_X6_type ((((xs ((nI i) + (nI 1)).toNatClampNeg)).toUInt32 % 65536).toInt32) N).2))) (pl_cm (Q := Q) (M := ((fv_X5_type ((((xs ((nI i) + (nI 1)).toNatClampNeg)).toUInt32 % 65536).toInt32) M).2)) (ct_X6_type (E := (pl_Em Q ((fv_X5_type ((((xs ((nI i) + (nI 1)).toNatClampNeg)).toUInt32 % 65536).toInt32) M).2))) (l := ps_l X) ((((xs ((nI i) + (nI 1)).toNatClampNeg)).toUInt32 % 65536).toInt32) N o2)) pl_rm rfl (Nat.le_of_ble_eq_true rfl) (Nat.le_of_ble_eq_true rfl) (Nat.le_of_ble_eq_true rfl) ?_
  refine gl_iceq C 899 555 dL_law_552 (by decide) he ?_
  exact k _ _ hR
def pl_sim_clearText (Rel : ps_M → ps_M → Prop) : Prop := ∀ (M N : ps_M), Rel M N → ok_X5_clearText  M ∧ ok_X6_clearText  N ∧ (fv_X5_clearText  M).1 = (fv_X6_clearText  N).1 ∧ Rel ((fv_X5_clearText  M).2) ((fv_X6_clearText  N).2)
set_option maxRecDepth 100000 in
set_option maxHeartbeats 4000000 in
theorem law_c13 {Q : pl_Q} {X : ps_X Unit} (C : ps_C (pl_Y Q) X cL_law RL (some .boolean) 10 370 4) {b L : Nat} {xs : Nat → Int32} (hX : pl_scr (pl_Y Q) X b L xs) (hL : L ≤ 2048) (Rel : ps_M → ps_M → Prop) (sm : pl_sim_clearText Rel) {i : Nat} (hi : i + 4 ≤ L) {r : Unit} (k : ∀ M N : ps_M, Rel M N → ps_G (pl_Y Q) X r 899 [(0, .ref b), (1, .ref (Q.2.2.2.1 0)), (2, .ref (Q.2.2.2.2 0)), (3, .int (nI i))] [] (M, N)) (M N : ps_M) (hR : Rel M N) : ps_G (pl_Y Q) X r 557 [(0, .ref b), (1, .ref (Q.2.2.2.1 0)), (2, .ref (Q.2.2.2.2 0)), (3, .int (nI i))] [] (M, N) := by
  obtain ⟨o1, o2, he, hR⟩ := sm M N  hR
  refine gw_aload_n C 558 dL_law_557 1 rfl rfl ?_
  refine gw_cVi C 561 dL_law_558 rfl yv_X5_clearText lk_L_70 [] [] rfl (r0 := ((fv_X5_clearText  M).1, ((fv_X5_clearText  M).2, N))) (pl_cc (Q := Q) (N := N) (ct_X5_clearText (E := (pl_Ec Q N)) (l := ps_l X) M o1)) pl_rc rfl (Nat.le_of_ble_eq_true rfl) (Nat.le_of_ble_eq_true rfl) (Nat.le_of_ble_eq_true rfl) ?_
  refine gw_aload_n C 562 dL_law_561 2 rfl rfl ?_
  refine gw_cVi C 565 dL_law_562 rfl yv_X6_clearText lk_L_73 [] [.int ((fv_X5_clearText  M).1)] rfl (r0 := ((fv_X6_clearText  N).1, ((fv_X5_clearText  M).2, (fv_X6_clearText  N).2))) (pl_cm (Q := Q) (M := ((fv_X5_clearText  M).2)) (ct_X6_clearText (E := (pl_Em Q ((fv_X5_clearText  M).2))) (l := ps_l X) N o2)) pl_rm rfl (Nat.le_of_ble_eq_true rfl) (Nat.le_of_ble_eq_true rfl) (Nat.le_of_ble_eq_true rfl) ?_
  refine gl_iceq C 899 568 dL_law_565 (by decide) he ?_
  exact k _ _ hR
def pl_sim_readArrivals (Rel : ps_M → ps_M → Prop) : Prop := ∀ (M N : ps_M) (a1 a2 : Int32), Rel M N → ok_X5_readArrivals a1 a2 M ∧ ok_X6_readArrivals a1 a2 N ∧ (fv_X5_readArrivals a1 a2 M).1 = (fv_X6_readArrivals a1 a2 N).1 ∧ Rel ((fv_X5_readArrivals a1 a2 M).2) ((fv_X6_readArrivals a1 a2 N).2)
set_option maxRecDepth 100000 in
set_option maxHeartbeats 4000000 in
theorem law_c14 {Q : pl_Q} {X : ps_X Unit} (C : ps_C (pl_Y Q) X cL_law RL (some .boolean) 10 370 4) {b L : Nat} {xs : Nat → Int32} (hX : pl_scr (pl_Y Q) X b L xs) (hL : L ≤ 2048) (Rel : ps_M → ps_M → Prop) (sm : pl_sim_readArrivals Rel) {i : Nat} (hi : i + 4 ≤ L) {r : Unit} (k : ∀ M N : ps_M, Rel M N → ps_G (pl_Y Q) X r 899 [(0, .ref b), (1, .ref (Q.2.2.2.1 0)), (2, .ref (Q.2.2.2.2 0)), (3, .int (nI i))] [] (M, N)) (M N : ps_M) (hR : Rel M N) : ps_G (pl_Y Q) X r 570 [(0, .ref b), (1, .ref (Q.2.2.2.1 0)), (2, .ref (Q.2.2.2.2 0)), (3, .int (nI i))] [] (M, N) := by
  obtain ⟨o1, o2, he, hR⟩ := sm M N (xs (nI i + nI 1).toNatClampNeg) (xs (nI i + nI 2).toNatClampNeg) hR
  refine gw_aload_n C 571 dL_law_570 1 rfl rfl ?_
  refine gw_aload_n C 572 dL_law_571 0 rfl rfl ?_
  refine gw_iload_n C 573 dL_law_572 3 rfl rfl ?_
  refine gw_iconst C 574 dL_law_573 (v := nI 1) (by decide) rfl ?_
  refine gw_iadd C 575 dL_law_574 rfl ?_
  refine gl_sld C 576 dL_law_575 rfl hX (pl_ix hL (by omega)) ?_
  refine gw_aload_n C 577 dL_law_576 0 rfl rfl ?_
  refine gw_iload_n C 578 dL_law_577 3 rfl rfl ?_
  refine gw_iconst C 579 dL_law_578 (v := nI 2) (by decide) rfl ?_
  refine gw_iadd C 580 dL_law_579 rfl ?_
  refine gl_sld C 581 dL_law_580 rfl hX (pl_ix hL (by omega)) ?_
  refine gw_cVi C 584 dL_law_581 rfl yv_X5_readArrivals lk_L_74 [.int (xs ((nI i) + (nI 1)).toNatClampNeg), .int (xs ((nI i) + (nI 2)).toNatClampNeg)] [] rfl (r0 := ((fv_X5_readArrivals (xs ((nI i) + (nI 1)).toNatClampNeg) (xs ((nI i) + (nI 2)).toNatClampNeg) M).1, ((fv_X5_readArrivals (xs ((nI i) + (nI 1)).toNatClampNeg) (xs ((nI i) + (nI 2)).toNatClampNeg) M).2, N))) (pl_cc (Q := Q) (N := N) (ct_X5_readArrivals (E := (pl_Ec Q N)) (l := ps_l X) (xs ((nI i) + (nI 1)).toNatClampNeg) (xs ((nI i) + (nI 2)).toNatClampNeg) M o1)) pl_rc rfl (Nat.le_of_ble_eq_true rfl) (Nat.le_of_ble_eq_true rfl) (Nat.le_of_ble_eq_true rfl) ?_
  refine gw_aload_n C 585 dL_law_584 2 rfl rfl ?_
  refine gw_aload_n C 586 dL_law_585 0 rfl rfl ?_
  refine gw_iload_n C 587 dL_law_586 3 rfl rfl ?_
  refine gw_iconst C 588 dL_law_587 (v := nI 1) (by decide) rfl ?_
  refine gw_iadd C 589 dL_law_588 rfl ?_
  refine gl_sld C 590 dL_law_589 rfl hX (pl_ix hL (by omega)) ?_
  refine gw_aload_n C 591 dL_law_590 0 rfl rfl ?_
  refine gw_iload_n C 592 dL_law_591 3 rfl rfl ?_
  refine gw_iconst C 593 dL_law_592 (v := nI 2) (by decide) rfl ?_
  refine gw_iadd C 594 dL_law_593 rfl ?_
  refine gl_sld C 595 dL_law_594 rfl hX (pl_ix hL (by omega)) ?_
  refine gw_cVi C 598 dL_law_595 rfl yv_X6_readArrivals lk_L_77 [.int (xs ((nI i) + (nI 1)).toNatClampNeg), .int (xs ((nI i) + (nI 2)).toNatClampNeg)] [.int ((fv_X5_readArrivals (xs ((nI i) + (nI 1)).toNatClampNeg) (xs ((nI i) + (nI 2)).toNatClampNeg) M).1)] rfl (r0 := ((fv_X6_readArrivals (xs ((nI i) + (nI 1)).toNatClampNeg) (xs ((nI i) + (nI 2)).toNatClampNeg) N).1, ((fv_X5_readArrivals (xs ((nI i) + (nI 1)).toNatClampNeg) (xs ((nI i) + (nI 2)).toNatClampNeg) M).2, (fv_X6_readArrivals (xs ((nI i) + (nI 1)).toNatClampNeg) (xs ((nI i) + (nI 2)).toNatClampNeg) N).2))) (pl_cm (Q := Q) (M := ((fv_X5_readArrivals (xs ((nI i) + (nI 1)).toNatClampNeg) (xs ((nI i) + (nI 2)).toNatClampNeg) M).2)) (ct_X6_readArrivals (E := (pl_Em Q ((fv_X5_readArrivals (xs ((nI i) + (nI 1)).toNatClampNeg) (xs ((nI i) + (nI 2)).toNatClampNeg) M).2))) (l := ps_l X) (xs ((nI i) + (nI 1)).toNatClampNeg) (xs ((nI i) + (nI 2)).toNatClampNeg) N o2)) pl_rm rfl (Nat.le_of_ble_eq_true rfl) (Nat.le_of_ble_eq_true rfl) (Nat.le_of_ble_eq_true rfl) ?_
  refine gl_iceq C 899 601 dL_law_598 (by decide) he ?_
  exact k _ _ hR
def pl_sim_undo (Rel : ps_M → ps_M → Prop) : Prop := ∀ (M N : ps_M), Rel M N → ok_X5_undo  M ∧ ok_X6_undo  N ∧ (fv_X5_undo  M).1 = (fv_X6_undo  N).1 ∧ Rel ((fv_X5_undo  M).2) ((fv_X6_undo  N).2)
set_option maxRecDepth 100000 in
set_option maxHeartbeats 4000000 in
theorem law_c15 {Q : pl_Q} {X : ps_X Unit} (C : ps_C (pl_Y Q) X cL_law RL (some .boolean) 10 370 4) {b L : Nat} {xs : Nat → Int32} (hX : pl_scr (pl_Y Q) X b L xs) (hL : L ≤ 2048) (Rel : ps_M → ps_M → Prop) (sm : pl_sim_undo Rel) {i : Nat} (hi : i + 4 ≤ L) {r : Unit} (k : ∀ M N : ps_M, Rel M N → ps_G (pl_Y Q) X r 899 [(0, .ref b), (1, .ref (Q.2.2.2.1 0)), (2, .ref (Q.2.2.2.2 0)), (3, .int (nI i))] [] (M, N)) (M N : ps_M) (hR : Rel M N) : ps_G (pl_Y Q) X r 603 [(0, .ref b), (1, .ref (Q.2.2.2.1 0)), (2, .ref (Q.2.2.2.2 0)), (3, .int (nI i))] [] (M, N) := by
  obtain ⟨o1, o2, he, hR⟩ := sm M N  hR
  refine gw_aload_n C 604 dL_law_603 1 rfl rfl ?_
  refine gw_cVi C 607 dL_law_604 rfl yv_X5_undo lk_L_78 [] [] rfl (r0 := ((fv_X5_undo  M).1, ((fv_X5_undo  M).2, N))) (pl_cc (Q := Q) (N := N) (ct_X5_undo (E := (pl_Ec Q N)) (l := ps_l X) M o1)) pl_rc rfl (Nat.le_of_ble_eq_true rfl) (Nat.le_of_ble_eq_true rfl) (Nat.le_of_ble_eq_true rfl) ?_
  refine gw_aload_n C 608 dL_law_607 2 rfl rfl ?_
  refine gw_cVi C 611 dL_law_608 rfl yv_X6_undo lk_L_81 [] [.int ((fv_X5_undo  M).1)] rfl (r0 := ((fv_X6_undo  N).1, ((fv_X5_undo  M).2, (fv_X6_undo  N).2))) (pl_cm (Q := Q) (M := ((fv_X5_undo  M).2)) (ct_X6_undo (E := (pl_Em Q ((fv_X5_undo  M).2))) (l := ps_l X) N o2)) pl_rm rfl (Nat.le_of_ble_eq_true rfl) (Nat.le_of_ble_eq_true rfl) (Nat.le_of_ble_eq_true rfl) ?_
  refine gl_iceq C 899 614 dL_law_611 (by decide) he ?_
  exact k _ _ hR
def pl_sim_keep (Rel : ps_M → ps_M → Prop) : Prop := ∀ (M N : ps_M), Rel M N → ok_X5_keep  M ∧ ok_X6_keep  N ∧ (fv_X5_keep  M).1 = (fv_X6_keep  N).1 ∧ Rel ((fv_X5_keep  M).2) ((fv_X6_keep  N).2)
set_option maxRecDepth 100000 in
set_option maxHeartbeats 4000000 in
theorem law_c16 {Q : pl_Q} {X : ps_X Unit} (C : ps_C (pl_Y Q) X cL_law RL (some .boolean) 10 370 4) {b L : Nat} {xs : Nat → Int32} (hX : pl_scr (pl_Y Q) X b L xs) (hL : L ≤ 2048) (Rel : ps_M → ps_M → Prop) (sm : pl_sim_keep Rel) {i : Nat} (hi : i + 4 ≤ L) {r : Unit} (k : ∀ M N : ps_M, Rel M N → ps_G (pl_Y Q) X r 899 [(0, .ref b), (1, .ref (Q.2.2.2.1 0)), (2, .ref (Q.2.2.2.2 0)), (3, .int (nI i))] [] (M, N)) (M N : ps_M) (hR : Rel M N) : ps_G (pl_Y Q) X r 616 [(0, .ref b), (1, .ref (Q.2.2.2.1 0)), (2, .ref (Q.2.2.2.2 0)), (3, .int (nI i))] [] (M, N) := by
  obtain ⟨o1, o2, he, hR⟩ := sm M N  hR
  refine gw_aload_n C 617 dL_law_616 1 rfl rfl ?_
  refine gw_cVi C 620 dL_law_617 rfl yv_X5_keep lk_L_82 [] [] rfl (r0 := ((fv_X5_keep  M).1, ((fv_X5_keep  M).2, N))) (pl_cc (Q := Q) (N := N) (ct_X5_keep (E := (pl_Ec Q N)) (l := ps_l X) M o1)) pl_rc rfl (Nat.le_of_ble_eq_true rfl) (Nat.le_of_ble_eq_true rfl) (Nat.le_of_ble_eq_true rfl) ?_
  refine gw_aload_n C 621 dL_law_620 2 rfl rfl ?_
  refine gw_cVi C 624 dL_law_621 rfl yv_X6_keep lk_L_85 [] [.int ((fv_X5_keep  M).1)] rfl (r0 := ((fv_X6_keep  N).1, ((fv_X5_keep  M).2, (fv_X6_keep  N).2))) (pl_cm (Q := Q) (M := ((fv_X5_keep  M).2)) (ct_X6_keep (E := (pl_Em Q ((fv_X5_keep  M).2))) (l := ps_l X) N o2)) pl_rm rfl (Nat.le_of_ble_eq_true rfl) (Nat.le_of_ble_eq_true rfl) (Nat.le_of_ble_eq_true rfl) ?_
  refine gl_iceq C 899 627 dL_law_624 (by decide) he ?_
  exact k _ _ hR
def pl_sim_restore (Rel : ps_M → ps_M → Prop) : Prop := ∀ (M N : ps_M), Rel M N → ok_X5_restore  M ∧ ok_X6_restore  N ∧ (fv_X5_restore  M).1 = (fv_X6_restore  N).1 ∧ Rel ((fv_X5_restore  M).2) ((fv_X6_restore  N).2)
set_option maxRecDepth 100000 in
set_option maxHeartbeats 4000000 in
theorem law_c17 {Q : pl_Q} {X : ps_X Unit} (C : ps_C (pl_Y Q) X cL_law RL (some .boolean) 10 370 4) {b L : Nat} {xs : Nat → Int32} (hX : pl_scr (pl_Y Q) X b L xs) (hL : L ≤ 2048) (Rel : ps_M → ps_M → Prop) (sm : pl_sim_restore Rel) {i : Nat} (hi : i + 4 ≤ L) {r : Unit} (k : ∀ M N : ps_M, Rel M N → ps_G (pl_Y Q) X r 899 [(0, .ref b), (1, .ref (Q.2.2.2.1 0)), (2, .ref (Q.2.2.2.2 0)), (3, .int (nI i))] [] (M, N)) (M N : ps_M) (hR : Rel M N) : ps_G (pl_Y Q) X r 629 [(0, .ref b), (1, .ref (Q.2.2.2.1 0)), (2, .ref (Q.2.2.2.2 0)), (3, .int (nI i))] [] (M, N) := by
  obtain ⟨o1, o2, he, hR⟩ := sm M N  hR
  refine gw_aload_n C 630 dL_law_629 1 rfl rfl ?_
  refine gw_cVi C 633 dL_law_630 rfl yv_X5_restore lk_L_86 [] [] rfl (r0 := ((fv_X5_restore  M).1, ((fv_X5_restore  M).2, N))) (pl_cc (Q := Q) (N := N) (ct_X5_restore (E := (pl_Ec Q N)) (l := ps_l X) M o1)) pl_rc rfl (Nat.le_of_ble_eq_true rfl) (Nat.le_of_ble_eq_true rfl) (Nat.le_of_ble_eq_true rfl) ?_
  refine gw_aload_n C 634 dL_law_633 2 rfl rfl ?_
  refine gw_cVi C 637 dL_law_634 rfl yv_X6_restore lk_L_89 [] [.int ((fv_X5_restore  M).1)] rfl (r0 := ((fv_X6_restore  N).1, ((fv_X5_restore  M).2, (fv_X6_restore  N).2))) (pl_cm (Q := Q) (M := ((fv_X5_restore  M).2)) (ct_X6_restore (E := (pl_Em Q ((fv_X5_restore  M).2))) (l := ps_l X) N o2)) pl_rm rfl (Nat.le_of_ble_eq_true rfl) (Nat.le_of_ble_eq_true rfl) (Nat.le_of_ble_eq_true rfl) ?_
  refine gl_iceq C 899 640 dL_law_637 (by decide) he ?_
  exact k _ _ hR
def pl_sim_station (Rel : ps_M → ps_M → Prop) : Prop := ∀ (M N : ps_M) (a1 a2 : Int32), Rel M N → ok_X5_station a1 a2 M ∧ ok_X6_station a1 a2 N ∧ fv_X5_station a1 a2 M = fv_X6_station a1 a2 N ∧ Rel M N
set_option maxRecDepth 100000 in
set_option maxHeartbeats 4000000 in
theorem law_c18 {Q : pl_Q} {X : ps_X Unit} (C : ps_C (pl_Y Q) X cL_law RL (some .boolean) 10 370 4) {b L : Nat} {xs : Nat → Int32} (hX : pl_scr (pl_Y Q) X b L xs) (hL : L ≤ 2048) (Rel : ps_M → ps_M → Prop) (sm : pl_sim_station Rel) {i : Nat} (hi : i + 4 ≤ L) {r : Unit} (k : ∀ M N : ps_M, Rel M N → ps_G (pl_Y Q) X r 899 [(0, .ref b), (1, .ref (Q.2.2.2.1 0)), (2, .ref (Q.2.2.2.2 0)), (3, .int (nI i))] [] (M, N)) (M N : ps_M) (hR : Rel M N) : ps_G (pl_Y Q) X r 642 [(0, .ref b), (1, .ref (Q.2.2.2.1 0)), (2, .ref (Q.2.2.2.2 0)), (3, .int (nI i))] [] (M, N) := by
  obtain ⟨o1, o2, he, hR⟩ := sm M N (xs (nI i + nI 1).toNatClampNeg) (xs (nI i + nI 2).toNatClampNeg) hR
  refine gw_aload_n C 643 dL_law_642 1 rfl rfl ?_
  refine gw_aload_n C 644 dL_law_643 0 rfl rfl ?_
  refine gw_iload_n C 645 dL_law_644 3 rfl rfl ?_
  refine gw_iconst C 646 dL_law_645 (v := nI 1) (by decide) rfl ?_
  refine gw_iadd C 647 dL_law_646 rfl ?_
  refine gl_sld C 648 dL_law_647 rfl hX (pl_ix hL (by omega)) ?_
  refine gw_aload_n C 649 dL_law_648 0 rfl rfl ?_
  refine gw_iload_n C 650 dL_law_649 3 rfl rfl ?_
  refine gw_iconst C 651 dL_law_650 (v := nI 2) (by decide) rfl ?_
  refine gw_iadd C 652 dL_law_651 rfl ?_
  refine gl_sld C 653 dL_law_652 rfl hX (pl_ix hL (by omega)) ?_
  refine gw_cVp C 656 dL_law_653 rfl yv_X5_station lk_L_90 [.int (xs ((nI i) + (nI 1)).toNatClampNeg), .int (xs ((nI i) + (nI 2)).toNatClampNeg)] [] rfl (x0 := (fv_X5_station (xs ((nI i) + (nI 1)).toNatClampNeg) (xs ((nI i) + (nI 2)).toNatClampNeg) M)) (pl_cc (Q := Q) (N := N) (ct_X5_station (E := (pl_Ec Q N)) (l := ps_l X) (xs ((nI i) + (nI 1)).toNatClampNeg) (xs ((nI i) + (nI 2)).toNatClampNeg) M o1)) pl_rc rfl (Nat.le_of_ble_eq_true rfl) (Nat.le_of_ble_eq_true rfl) (Nat.le_of_ble_eq_true rfl) ?_
  refine gw_aload_n C 657 dL_law_656 2 rfl rfl ?_
  refine gw_aload_n C 658 dL_law_657 0 rfl rfl ?_
  refine gw_iload_n C 659 dL_law_658 3 rfl rfl ?_
  refine gw_iconst C 660 dL_law_659 (v := nI 1) (by decide) rfl ?_
  refine gw_iadd C 661 dL_law_660 rfl ?_
  refine gl_sld C 662 dL_law_661 rfl hX (pl_ix hL (by omega)) ?_
  refine gw_aload_n C 663 dL_law_662 0 rfl rfl ?_
  refine gw_iload_n C 664 dL_law_663 3 rfl rfl ?_
  refine gw_iconst C 665 dL_law_664 (v := nI 2) (by decide) rfl ?_
  refine gw_iadd C 666 dL_law_665 rfl ?_
  refine gl_sld C 667 dL_law_666 rfl hX (pl_ix hL (by omega)) ?_
  refine gw_cVp C 670 dL_law_667 rfl yv_X6_station lk_L_93 [.int (xs ((nI i) + (nI 1)).toNatClampNeg), .int (xs ((nI i) + (nI 2)).toNatClampNeg)] [.int (fv_X5_station (xs ((nI i) + (nI 1)).toNatClampNeg) (xs ((nI i) + (nI 2)).toNatClampNeg) M)] rfl (x0 := (fv_X6_station (xs ((nI i) + (nI 1)).toNatClampNeg) (xs ((nI i) + (nI 2)).toNatClampNeg) N)) (pl_cm (Q := Q) (M := M) (ct_X6_station (E := (pl_Em Q M)) (l := ps_l X) (xs ((nI i) + (nI 1)).toNatClampNeg) (xs ((nI i) + (nI 2)).toNatClampNeg) N o2)) pl_rm rfl (Nat.le_of_ble_eq_true rfl) (Nat.le_of_ble_eq_true rfl) (Nat.le_of_ble_eq_true rfl) ?_
  refine gl_iceq C 899 673 dL_law_670 (by decide) he ?_
  exact k _ _ hR
def pl_sim_papers (Rel : ps_M → ps_M → Prop) : Prop := ∀ (M N : ps_M) (a1 a2 : Int32), Rel M N → ok_X5_papers a1 a2 M ∧ ok_X6_papers a1 a2 N ∧ fv_X5_papers a1 a2 M = fv_X6_papers a1 a2 N ∧ Rel M N
set_option maxRecDepth 100000 in
set_option maxHeartbeats 4000000 in
theorem law_c19 {Q : pl_Q} {X : ps_X Unit} (C : ps_C (pl_Y Q) X cL_law RL (some .boolean) 10 370 4) {b L : Nat} {xs : Nat → Int32} (hX : pl_scr (pl_Y Q) X b L xs) (hL : L ≤ 2048) (Rel : ps_M → ps_M → Prop) (sm : pl_sim_papers Rel) {i : Nat} (hi : i + 4 ≤ L) {r : Unit} (k : ∀ M N : ps_M, Rel M N → ps_G (pl_Y Q) X r 899 [(0, .ref b), (1, .ref (Q.2.2.2.1 0)), (2, .ref (Q.2.2.2.2 0)), (3, .int (nI i))] [] (M, N)) (M N : ps_M) (hR : Rel M N) : ps_G (pl_Y Q) X r 675 [(0, .ref b), (1, .ref (Q.2.2.2.1 0)), (2, .ref (Q.2.2.2.2 0)), (3, .int (nI i))] [] (M, N) := by
  obtain ⟨o1, o2, he, hR⟩ := sm M N (xs (nI i + nI 1).toNatClampNeg) (xs (nI i + nI 2).toNatClampNeg) hR
  refine gw_aload_n C 676 dL_law_675 1 rfl rfl ?_
  refine gw_aload_n C 677 dL_law_676 0 rfl rfl ?_
  refine gw_iload_n C 678 dL_law_677 3 rfl rfl ?_
  refine gw_iconst C 679 dL_law_678 (v := nI 1) (by decide) rfl ?_
  refine gw_iadd C 680 dL_law_679 rfl ?_
  refine gl_sld C 681 dL_law_680 rfl hX (pl_ix hL (by omega)) ?_
  refine gw_aload_n C 682 dL_law_681 0 rfl rfl ?_
  refine gw_iload_n C 683 dL_law_682 3 rfl rfl ?_
  refine gw_iconst C 684 dL_law_683 (v := nI 2) (by decide) rfl ?_
  refine gw_iadd C 685 dL_law_684 rfl ?_
  refine gl_sld C 686 dL_law_685 rfl hX (pl_ix hL (by omega)) ?_
  refine gw_cVp C 689 dL_law_686 rfl yv_X5_papers lk_L_94 [.int (xs ((nI i) + (nI 1)).toNatClampNeg), .int (xs ((nI i) + (nI 2)).toNatClampNeg)] [] rfl (x0 := (fv_X5_papers (xs ((nI i) + (nI 1)).toNatClampNeg) (xs ((nI i) + (nI 2)).toNatClampNeg) M)) (pl_cc (Q := Q) (N := N) (ct_X5_papers (E := (pl_Ec Q N)) (l := ps_l X) (xs ((nI i) + (nI 1)).toNatClampNeg) (xs ((nI i) + (nI 2)).toNatClampNeg) M o1)) pl_rc rfl (Nat.le_of_ble_eq_true rfl) (Nat.le_of_ble_eq_true rfl) (Nat.le_of_ble_eq_true rfl) ?_
  refine gw_aload_n C 690 dL_law_689 2 rfl rfl ?_
  refine gw_aload_n C 691 dL_law_690 0 rfl rfl ?_
  refine gw_iload_n C 692 dL_law_691 3 rfl rfl ?_
  refine gw_iconst C 693 dL_law_692 (v := nI 1) (by decide) rfl ?_
  refine gw_iadd C 694 dL_law_693 rfl ?_
  refine gl_sld C 695 dL_law_694 rfl hX (pl_ix hL (by omega)) ?_
  refine gw_aload_n C 696 dL_law_695 0 rfl rfl ?_
  refine gw_iload_n C 697 dL_law_696 3 rfl rfl ?_
  refine gw_iconst C 698 dL_law_697 (v := nI 2) (by decide) rfl ?_
  refine gw_iadd C 699 dL_law_698 rfl ?_
  refine gl_sld C 700 dL_law_699 rfl hX (pl_ix hL (by omega)) ?_
  refine gw_cVp C 703 dL_law_700 rfl yv_X6_papers lk_L_97 [.int (xs ((nI i) + (nI 1)).toNatClampNeg), .int (xs ((nI i) + (nI 2)).toNatClampNeg)] [.int (fv_X5_papers (xs ((nI i) + (nI 1)).toNatClampNeg) (xs ((nI i) + (nI 2)).toNatClampNeg) M)] rfl (x0 := (fv_X6_papers (xs ((nI i) + (nI 1)).toNatClampNeg) (xs ((nI i) + (nI 2)).toNatClampNeg) N)) (pl_cm (Q := Q) (M := M) (ct_X6_papers (E := (pl_Em Q M)) (l := ps_l X) (xs ((nI i) + (nI 1)).toNatClampNeg) (xs ((nI i) + (nI 2)).toNatClampNeg) N o2)) pl_rm rfl (Nat.le_of_ble_eq_true rfl) (Nat.le_of_ble_eq_true rfl) (Nat.le_of_ble_eq_true rfl) ?_
  refine gl_iceq C 899 706 dL_law_703 (by decide) he ?_
  exact k _ _ hR
def pl_sim_clerk (Rel : ps_M → ps_M → Prop) : Prop := ∀ (M N : ps_M) (a1 a2 : Int32), Rel M N → ok_X5_clerk a1 a2 M ∧ ok_X6_clerk a1 a2 N ∧ fv_X5_clerk a1 a2 M = fv_X6_clerk a1 a2 N ∧ Rel M N
set_option maxRecDepth 100000 in
set_option maxHeartbeats 4000000 in
theorem law_c20 {Q : pl_Q} {X : ps_X Unit} (C : ps_C (pl_Y Q) X cL_law RL (some .boolean) 10 370 4) {b L : Nat} {xs : Nat → Int32} (hX : pl_scr (pl_Y Q) X b L xs) (hL : L ≤ 2048) (Rel : ps_M → ps_M → Prop) (sm : pl_sim_clerk Rel) {i : Nat} (hi : i + 4 ≤ L) {r : Unit} (k : ∀ M N : ps_M, Rel M N → ps_G (pl_Y Q) X r 899 [(0, .ref b), (1, .ref (Q.2.2.2.1 0)), (2, .ref (Q.2.2.2.2 0)), (3, .int (nI i))] [] (M, N)) (M N : ps_M) (hR : Rel M N) : ps_G (pl_Y Q) X r 708 [(0, .ref b), (1, .ref (Q.2.2.2.1 0)), (2, .ref (Q.2.2.2.2 0)), (3, .int (nI i))] [] (M, N) := by
  obtain ⟨o1, o2, he, hR⟩ := sm M N (xs (nI i + nI 1).toNatClampNeg) (xs (nI i + nI 2).toNatClampNeg) hR
  refine gw_aload_n C 709 dL_law_708 1 rfl rfl ?_
  refine gw_aload_n C 710 dL_law_709 0 rfl rfl ?_
  refine gw_iload_n C 711 dL_law_710 3 rfl rfl ?_
  refine gw_iconst C 712 dL_law_711 (v := nI 1) (by decide) rfl ?_
  refine gw_iadd C 713 dL_law_712 rfl ?_
  refine gl_sld C 714 dL_law_713 rfl hX (pl_ix hL (by omega)) ?_
  refine gw_aload_n C 715 dL_law_714 0 rfl rfl ?_
  refine gw_iload_n C 716 dL_law_715 3 rfl rfl ?_
  refine gw_iconst C 717 dL_law_716 (v := nI 2) (by decide) rfl ?_
  refine gw_iadd C 718 dL_law_717 rfl ?_
  refine gl_sld C 719 dL_law_718 rfl hX (pl_ix hL (by omega)) ?_
  refine gw_cVp C 722 dL_law_719 rfl yv_X5_clerk lk_L_98 [.int (xs ((nI i) + (nI 1)).toNatClampNeg), .int (xs ((nI i) + (nI 2)).toNatClampNeg)] [] rfl (x0 := (fv_X5_clerk (xs ((nI i) + (nI 1)).toNatClampNeg) (xs ((nI i) + (nI 2)).toNatClampNeg) M)) (pl_cc (Q := Q) (N := N) (ct_X5_clerk (E := (pl_Ec Q N)) (l := ps_l X) (xs ((nI i) + (nI 1)).toNatClampNeg) (xs ((nI i) + (nI 2)).toNatClampNeg) M o1)) pl_rc rfl (Nat.le_of_ble_eq_true rfl) (Nat.le_of_ble_eq_true rfl) (Nat.le_of_ble_eq_true rfl) ?_
  refine gw_aload_n C 723 dL_law_722 2 rfl rfl ?_
  refine gw_aload_n C 724 dL_law_723 0 rfl rfl ?_
  refine gw_iload_n C 725 dL_law_724 3 rfl rfl ?_
  refine gw_iconst C 726 dL_law_725 (v := nI 1) (by decide) rfl ?_
  refine gw_iadd C 727 dL_law_726 rfl ?_
  refine gl_sld C 728 dL_law_727 rfl hX (pl_ix hL (by omega)) ?_
  refine gw_aload_n C 729 dL_law_728 0 rfl rfl ?_
  refine gw_iload_n C 730 dL_law_729 3 rfl rfl ?_
  refine gw_iconst C 731 dL_law_730 (v := nI 2) (by decide) rfl ?_
  refine gw_iadd C 732 dL_law_731 rfl ?_
  refine gl_sld C 733 dL_law_732 rfl hX (pl_ix hL (by omega)) ?_
  refine gw_cVp C 736 dL_law_733 rfl yv_X6_clerk lk_L_101 [.int (xs ((nI i) + (nI 1)).toNatClampNeg), .int (xs ((nI i) + (nI 2)).toNatClampNeg)] [.int (fv_X5_clerk (xs ((nI i) + (nI 1)).toNatClampNeg) (xs ((nI i) + (nI 2)).toNatClampNeg) M)] rfl (x0 := (fv_X6_clerk (xs ((nI i) + (nI 1)).toNatClampNeg) (xs ((nI i) + (nI 2)).toNatClampNeg) N)) (pl_cm (Q := Q) (M := M) (ct_X6_clerk (E := (pl_Em Q M)) (l := ps_l X) (xs ((nI i) + (nI 1)).toNatClampNeg) (xs ((nI i) + (nI 2)).toNatClampNeg) N o2)) pl_rm rfl (Nat.le_of_ble_eq_true rfl) (Nat.le_of_ble_eq_true rfl) (Nat.le_of_ble_eq_true rfl) ?_
  refine gl_iceq C 899 739 dL_law_736 (by decide) he ?_
  exact k _ _ hR
def pl_sim_arrivals (Rel : ps_M → ps_M → Prop) : Prop := ∀ (M N : ps_M) (a1 a2 : Int32), Rel M N → ok_X5_arrivals a1 a2 M ∧ ok_X6_arrivals a1 a2 N ∧ fv_X5_arrivals a1 a2 M = fv_X6_arrivals a1 a2 N ∧ Rel M N
set_option maxRecDepth 100000 in
set_option maxHeartbeats 4000000 in
theorem law_c21 {Q : pl_Q} {X : ps_X Unit} (C : ps_C (pl_Y Q) X cL_law RL (some .boolean) 10 370 4) {b L : Nat} {xs : Nat → Int32} (hX : pl_scr (pl_Y Q) X b L xs) (hL : L ≤ 2048) (Rel : ps_M → ps_M → Prop) (sm : pl_sim_arrivals Rel) {i : Nat} (hi : i + 4 ≤ L) {r : Unit} (k : ∀ M N : ps_M, Rel M N → ps_G (pl_Y Q) X r 899 [(0, .ref b), (1, .ref (Q.2.2.2.1 0)), (2, .ref (Q.2.2.2.2 0)), (3, .int (nI i))] [] (M, N)) (M N : ps_M) (hR : Rel M N) : ps_G (pl_Y Q) X r 741 [(0, .ref b), (1, .ref (Q.2.2.2.1 0)), (2, .ref (Q.2.2.2.2 0)), (3, .int (nI i))] [] (M, N) := by
  obtain ⟨o1, o2, he, hR⟩ := sm M N (xs (nI i + nI 1).toNatClampNeg) (xs (nI i + nI 2).toNatClampNeg) hR
  refine gw_aload_n C 742 dL_law_741 1 rfl rfl ?_
  refine gw_aload_n C 743 dL_law_742 0 rfl rfl ?_
  refine gw_iload_n C 744 dL_law_743 3 rfl rfl ?_
  refine gw_iconst C 745 dL_law_744 (v := nI 1) (by decide) rfl ?_
  refine gw_iadd C 746 dL_law_745 rfl ?_
  refine gl_sld C 747 dL_law_746 rfl hX (pl_ix hL (by omega)) ?_
  refine gw_aload_n C 748 dL_law_747 0 rfl rfl ?_
  refine gw_iload_n C 749 dL_law_748 3 rfl rfl ?_
  refine gw_iconst C 750 dL_law_749 (v := nI 2) (by decide) rfl ?_
  refine gw_iadd C 751 dL_law_750 rfl ?_
  refine gl_sld C 752 dL_law_751 rfl hX (pl_ix hL (by omega)) ?_
  refine gw_cVp C 755 dL_law_752 rfl yv_X5_arrivals lk_L_102 [.int (xs ((nI i) + (nI 1)).toNatClampNeg), .int (xs ((nI i) + (nI 2)).toNatClampNeg)] [] rfl (x0 := (fv_X5_arrivals (xs ((nI i) + (nI 1)).toNatClampNeg) (xs ((nI i) + (nI 2)).toNatClampNeg) M)) (pl_cc (Q := Q) (N := N) (ct_X5_arrivals (E := (pl_Ec Q N)) (l := ps_l X) (xs ((nI i) + (nI 1)).toNatClampNeg) (xs ((nI i) + (nI 2)).toNatClampNeg) M o1)) pl_rc rfl (Nat.le_of_ble_eq_true rfl) (Nat.le_of_ble_eq_true rfl) (Nat.le_of_ble_eq_true rfl) ?_
  refine gw_aload_n C 756 dL_law_755 2 rfl rfl ?_
  refine gw_aload_n C 757 dL_law_756 0 rfl rfl ?_
  refine gw_iload_n C 758 dL_law_757 3 rfl rfl ?_
  refine gw_iconst C 759 dL_law_758 (v := nI 1) (by decide) rfl ?_
  refine gw_iadd C 760 dL_law_759 rfl ?_
  refine gl_sld C 761 dL_law_760 rfl hX (pl_ix hL (by omega)) ?_
  refine gw_aload_n C 762 dL_law_761 0 rfl rfl ?_
  refine gw_iload_n C 763 dL_law_762 3 rfl rfl ?_
  refine gw_iconst C 764 dL_law_763 (v := nI 2) (by decide) rfl ?_
  refine gw_iadd C 765 dL_law_764 rfl ?_
  refine gl_sld C 766 dL_law_765 rfl hX (pl_ix hL (by omega)) ?_
  refine gw_cVp C 769 dL_law_766 rfl yv_X6_arrivals lk_L_105 [.int (xs ((nI i) + (nI 1)).toNatClampNeg), .int (xs ((nI i) + (nI 2)).toNatClampNeg)] [.int (fv_X5_arrivals (xs ((nI i) + (nI 1)).toNatClampNeg) (xs ((nI i) + (nI 2)).toNatClampNeg) M)] rfl (x0 := (fv_X6_arrivals (xs ((nI i) + (nI 1)).toNatClampNeg) (xs ((nI i) + (nI 2)).toNatClampNeg) N)) (pl_cm (Q := Q) (M := M) (ct_X6_arrivals (E := (pl_Em Q M)) (l := ps_l X) (xs ((nI i) + (nI 1)).toNatClampNeg) (xs ((nI i) + (nI 2)).toNatClampNeg) N o2)) pl_rm rfl (Nat.le_of_ble_eq_true rfl) (Nat.le_of_ble_eq_true rfl) (Nat.le_of_ble_eq_true rfl) ?_
  refine gl_iceq C 899 772 dL_law_769 (by decide) he ?_
  exact k _ _ hR
def pl_sim_free (Rel : ps_M → ps_M → Prop) : Prop := ∀ (M N : ps_M) (a1 : Int32), Rel M N → ok_X5_free a1 M ∧ ok_X6_free a1 N ∧ fv_X5_free a1 M = fv_X6_free a1 N ∧ Rel M N
set_option maxRecDepth 100000 in
set_option maxHeartbeats 4000000 in
theorem law_c22 {Q : pl_Q} {X : ps_X Unit} (C : ps_C (pl_Y Q) X cL_law RL (some .boolean) 10 370 4) {b L : Nat} {xs : Nat → Int32} (hX : pl_scr (pl_Y Q) X b L xs) (hL : L ≤ 2048) (Rel : ps_M → ps_M → Prop) (sm : pl_sim_free Rel) {i : Nat} (hi : i + 4 ≤ L) {r : Unit} (k : ∀ M N : ps_M, Rel M N → ps_G (pl_Y Q) X r 899 [(0, .ref b), (1, .ref (Q.2.2.2.1 0)), (2, .ref (Q.2.2.2.2 0)), (3, .int (nI i))] [] (M, N)) (M N : ps_M) (hR : Rel M N) : ps_G (pl_Y Q) X r 774 [(0, .ref b), (1, .ref (Q.2.2.2.1 0)), (2, .ref (Q.2.2.2.2 0)), (3, .int (nI i))] [] (M, N) := by
  obtain ⟨o1, o2, he, hR⟩ := sm M N (xs (nI i + nI 1).toNatClampNeg) hR
  refine gw_aload_n C 775 dL_law_774 1 rfl rfl ?_
  refine gw_aload_n C 776 dL_law_775 0 rfl rfl ?_
  refine gw_iload_n C 777 dL_law_776 3 rfl rfl ?_
  refine gw_iconst C 778 dL_law_777 (v := nI 1) (by decide) rfl ?_
  refine gw_iadd C 779 dL_law_778 rfl ?_
  refine gl_sld C 780 dL_law_779 rfl hX (pl_ix hL (by omega)) ?_
  refine gw_cVp C 783 dL_law_780 rfl yv_X5_free lk_L_106 [.int (xs ((nI i) + (nI 1)).toNatClampNeg)] [] rfl (x0 := (fv_X5_free (xs ((nI i) + (nI 1)).toNatClampNeg) M)) (pl_cc (Q := Q) (N := N) (ct_X5_free (E := (pl_Ec Q N)) (l := ps_l X) (xs ((nI i) + (nI 1)).toNatClampNeg) M o1)) pl_rc rfl (Nat.le_of_ble_eq_true rfl) (Nat.le_of_ble_eq_true rfl) (Nat.le_of_ble_eq_true rfl) ?_
  refine gw_aload_n C 784 dL_law_783 2 rfl rfl ?_
  refine gw_aload_n C 785 dL_law_784 0 rfl rfl ?_
  refine gw_iload_n C 786 dL_law_785 3 rfl rfl ?_
  refine gw_iconst C 787 dL_law_786 (v := nI 1) (by decide) rfl ?_
  refine gw_iadd C 788 dL_law_787 rfl ?_
  refine gl_sld C 789 dL_law_788 rfl hX (pl_ix hL (by omega)) ?_
  refine gw_cVp C 792 dL_law_789 rfl yv_X6_free lk_L_109 [.int (xs ((nI i) + (nI 1)).toNatClampNeg)] [.int (fv_X5_free (xs ((nI i) + (nI 1)).toNatClampNeg) M)] rfl (x0 := (fv_X6_free (xs ((nI i) + (nI 1)).toNatClampNeg) N)) (pl_cm (Q := Q) (M := M) (ct_X6_free (E := (pl_Em Q M)) (l := ps_l X) (xs ((nI i) + (nI 1)).toNatClampNeg) N o2)) pl_rm rfl (Nat.le_of_ble_eq_true rfl) (Nat.le_of_ble_eq_true rfl) (Nat.le_of_ble_eq_true rfl) ?_
  refine gl_iceq C 899 795 dL_law_792 (by decide) he ?_
  exact k _ _ hR
def pl_sim_busiest (Rel : ps_M → ps_M → Prop) : Prop := ∀ (M N : ps_M) (a1 : Int32), Rel M N → ok_X5_busiest a1 M ∧ ok_X6_busiest a1 N ∧ fv_X5_busiest a1 M = fv_X6_busiest a1 N ∧ Rel M N
set_option maxRecDepth 100000 in
set_option maxHeartbeats 4000000 in
theorem law_c23 {Q : pl_Q} {X : ps_X Unit} (C : ps_C (pl_Y Q) X cL_law RL (some .boolean) 10 370 4) {b L : Nat} {xs : Nat → Int32} (hX : pl_scr (pl_Y Q) X b L xs) (hL : L ≤ 2048) (Rel : ps_M → ps_M → Prop) (sm : pl_sim_busiest Rel) {i : Nat} (hi : i + 4 ≤ L) {r : Unit} (k : ∀ M N : ps_M, Rel M N → ps_G (pl_Y Q) X r 899 [(0, .ref b), (1, .ref (Q.2.2.2.1 0)), (2, .ref (Q.2.2.2.2 0)), (3, .int (nI i))] [] (M, N)) (M N : ps_M) (hR : Rel M N) : ps_G (pl_Y Q) X r 797 [(0, .ref b), (1, .ref (Q.2.2.2.1 0)), (2, .ref (Q.2.2.2.2 0)), (3, .int (nI i))] [] (M, N) := by
  obtain ⟨o1, o2, he, hR⟩ := sm M N (xs (nI i + nI 1).toNatClampNeg) hR
  refine gw_aload_n C 798 dL_law_797 1 rfl rfl ?_
  refine gw_aload_n C 799 dL_law_798 0 rfl rfl ?_
  refine gw_iload_n C 800 dL_law_799 3 rfl rfl ?_
  refine gw_iconst C 801 dL_law_800 (v := nI 1) (by decide) rfl ?_
  refine gw_iadd C 802 dL_law_801 rfl ?_
  refine gl_sld C 803 dL_law_802 rfl hX (pl_ix hL (by omega)) ?_
  refine gw_cVp C 806 dL_law_803 rfl yv_X5_busiest lk_L_110 [.int (xs ((nI i) + (nI 1)).toNatClampNeg)] [] rfl (x0 := (fv_X5_busiest (xs ((nI i) + (nI 1)).toNatClampNeg) M)) (pl_cc (Q := Q) (N := N) (ct_X5_busiest (E := (pl_Ec Q N)) (l := ps_l X) (xs ((nI i) + (nI 1)).toNatClampNeg) M o1)) pl_rc rfl (Nat.le_of_ble_eq_true rfl) (Nat.le_of_ble_eq_true rfl) (Nat.le_of_ble_eq_true rfl) ?_
  refine gw_aload_n C 807 dL_law_806 2 rfl rfl ?_
  refine gw_aload_n C 808 dL_law_807 0 rfl rfl ?_
  refine gw_iload_n C 809 dL_law_808 3 rfl rfl ?_
  refine gw_iconst C 810 dL_law_809 (v := nI 1) (by decide) rfl ?_
  refine gw_iadd C 811 dL_law_810 rfl ?_
  refine gl_sld C 812 dL_law_811 rfl hX (pl_ix hL (by omega)) ?_
  refine gw_cVp C 815 dL_law_812 rfl yv_X6_busiest lk_L_113 [.int (xs ((nI i) + (nI 1)).toNatClampNeg)] [.int (fv_X5_busiest (xs ((nI i) + (nI 1)).toNatClampNeg) M)] rfl (x0 := (fv_X6_busiest (xs ((nI i) + (nI 1)).toNatClampNeg) N)) (pl_cm (Q := Q) (M := M) (ct_X6_busiest (E := (pl_Em Q M)) (l := ps_l X) (xs ((nI i) + (nI 1)).toNatClampNeg) N o2)) pl_rm rfl (Nat.le_of_ble_eq_true rfl) (Nat.le_of_ble_eq_true rfl) (Nat.le_of_ble_eq_true rfl) ?_
  refine gl_iceq C 899 818 dL_law_815 (by decide) he ?_
  exact k _ _ hR
def pl_sim_queueIn (Rel : ps_M → ps_M → Prop) : Prop := ∀ (M N : ps_M) (a1 a2 : Int32), Rel M N → ok_X5_queueIn a1 a2 M ∧ ok_X6_queueIn a1 a2 N ∧ (fv_X5_queueIn a1 a2 M).1 = (fv_X6_queueIn a1 a2 N).1 ∧ Rel ((fv_X5_queueIn a1 a2 M).2) ((fv_X6_queueIn a1 a2 N).2)
set_option maxRecDepth 100000 in
set_option maxHeartbeats 4000000 in
theorem law_c24 {Q : pl_Q} {X : ps_X Unit} (C : ps_C (pl_Y Q) X cL_law RL (some .boolean) 10 370 4) {b L : Nat} {xs : Nat → Int32} (hX : pl_scr (pl_Y Q) X b L xs) (hL : L ≤ 2048) (Rel : ps_M → ps_M → Prop) (sm : pl_sim_queueIn Rel) {i : Nat} (hi : i + 4 ≤ L) {r : Unit} (k : ∀ M N : ps_M, Rel M N → ps_G (pl_Y Q) X r 899 [(0, .ref b), (1, .ref (Q.2.2.2.1 0)), (2, .ref (Q.2.2.2.2 0)), (3, .int (nI i))] [] (M, N)) (M N : ps_M) (hR : Rel M N) : ps_G (pl_Y Q) X r 820 [(0, .ref b), (1, .ref (Q.2.2.2.1 0)), (2, .ref (Q.2.2.2.2 0)), (3, .int (nI i))] [] (M, N) := by
  obtain ⟨o1, o2, he, hR⟩ := sm M N (xs (nI i + nI 1).toNatClampNeg) (xs (nI i + nI 2).toNatClampNeg) hR
  refine gw_aload_n C 821 dL_law_820 1 rfl rfl ?_
  refine gw_aload_n C 822 dL_law_821 0 rfl rfl ?_
  refine gw_iload_n C 823 dL_law_822 3 rfl rfl ?_
  refine gw_iconst C 824 dL_law_823 (v := nI 1) (by decide) rfl ?_
  refine gw_iadd C 825 dL_law_824 rfl ?_
  refine gl_sld C 826 dL_law_825 rfl hX (pl_ix hL (by omega)) ?_
  refine gw_aload_n C 827 dL_law_826 0 rfl rfl ?_
  refine gw_iload_n C 828 dL_law_827 3 rfl rfl ?_
  refine gw_iconst C 829 dL_law_828 (v := nI 2) (by decide) rfl ?_
  refine gw_iadd C 830 dL_law_829 rfl ?_
  refine gl_sld C 831 dL_law_830 rfl hX (pl_ix hL (by omega)) ?_
  refine gw_cVi C 834 dL_law_831 rfl yv_X5_queueIn lk_L_114 [.int (xs ((nI i) + (nI 1)).toNatClampNeg), .int (xs ((nI i) + (nI 2)).toNatClampNeg)] [] rfl (r0 := ((fv_X5_queueIn (xs ((nI i) + (nI 1)).toNatClampNeg) (xs ((nI i) + (nI 2)).toNatClampNeg) M).1, ((fv_X5_queueIn (xs ((nI i) + (nI 1)).toNatClampNeg) (xs ((nI i) + (nI 2)).toNatClampNeg) M).2, N))) (pl_cc (Q := Q) (N := N) (ct_X5_queueIn (E := (pl_Ec Q N)) (l := ps_l X) (xs ((nI i) + (nI 1)).toNatClampNeg) (xs ((nI i) + (nI 2)).toNatClampNeg) M o1)) pl_rc rfl (Nat.le_of_ble_eq_true rfl) (Nat.le_of_ble_eq_true rfl) (Nat.le_of_ble_eq_true rfl) ?_
  refine gw_aload_n C 835 dL_law_834 2 rfl rfl ?_
  refine gw_aload_n C 836 dL_law_835 0 rfl rfl ?_
  refine gw_iload_n C 837 dL_law_836 3 rfl rfl ?_
  refine gw_iconst C 838 dL_law_837 (v := nI 1) (by decide) rfl ?_
  refine gw_iadd C 839 dL_law_838 rfl ?_
  refine gl_sld C 840 dL_law_839 rfl hX (pl_ix hL (by omega)) ?_
  refine gw_aload_n C 841 dL_law_840 0 rfl rfl ?_
  refine gw_iload_n C 842 dL_law_841 3 rfl rfl ?_
  refine gw_iconst C 843 dL_law_842 (v := nI 2) (by decide) rfl ?_
  refine gw_iadd C 844 dL_law_843 rfl ?_
  refine gl_sld C 845 dL_law_844 rfl hX (pl_ix hL (by omega)) ?_
  refine gw_cVi C 848 dL_law_845 rfl yv_X6_queueIn lk_L_117 [.int (xs ((nI i) + (nI 1)).toNatClampNeg), .int (xs ((nI i) + (nI 2)).toNatClampNeg)] [.int ((fv_X5_queueIn (xs ((nI i) + (nI 1)).toNatClampNeg) (xs ((nI i) + (nI 2)).toNatClampNeg) M).1)] rfl (r0 := ((fv_X6_queueIn (xs ((nI i) + (nI 1)).toNatClampNeg) (xs ((nI i) + (nI 2)).toNatClampNeg) N).1, ((fv_X5_queueIn (xs ((nI i) + (nI 1)).toNatClampNeg) (xs ((nI i) + (nI 2)).toNatClampNeg) M).2, (fv_X6_queueIn (xs ((nI i) + (nI 1)).toNatClampNeg) (xs ((nI i) + (nI 2)).toNatClampNeg) N).2))) (pl_cm (Q := Q) (M := ((fv_X5_queueIn (xs ((nI i) + (nI 1)).toNatClampNeg) (xs ((nI i) + (nI 2)).toNatClampNeg) M).2)) (ct_X6_queueIn (E := (pl_Em Q ((fv_X5_queueIn (xs ((nI i) + (nI 1)).toNatClampNeg) (xs ((nI i) + (nI 2)).toNatClampNeg) M).2))) (l := ps_l X) (xs ((nI i) + (nI 1)).toNatClampNeg) (xs ((nI i) + (nI 2)).toNatClampNeg) N o2)) pl_rm rfl (Nat.le_of_ble_eq_true rfl) (Nat.le_of_ble_eq_true rfl) (Nat.le_of_ble_eq_true rfl) ?_
  refine gl_iceq C 899 851 dL_law_848 (by decide) he ?_
  exact k _ _ hR
def pl_sim_lacks (Rel : ps_M → ps_M → Prop) : Prop := ∀ (M N : ps_M) (a1 : Int32), Rel M N → ok_X5_lacks a1 M ∧ ok_X6_lacks a1 N ∧ (fv_X5_lacks a1 M).1 = (fv_X6_lacks a1 N).1 ∧ Rel ((fv_X5_lacks a1 M).2) ((fv_X6_lacks a1 N).2)
set_option maxRecDepth 100000 in
set_option maxHeartbeats 4000000 in
theorem law_c25 {Q : pl_Q} {X : ps_X Unit} (C : ps_C (pl_Y Q) X cL_law RL (some .boolean) 10 370 4) {b L : Nat} {xs : Nat → Int32} (hX : pl_scr (pl_Y Q) X b L xs) (hL : L ≤ 2048) (Rel : ps_M → ps_M → Prop) (sm : pl_sim_lacks Rel) {i : Nat} (hi : i + 4 ≤ L) {r : Unit} (k : ∀ M N : ps_M, Rel M N → ps_G (pl_Y Q) X r 899 [(0, .ref b), (1, .ref (Q.2.2.2.1 0)), (2, .ref (Q.2.2.2.2 0)), (3, .int (nI i))] [] (M, N)) (M N : ps_M) (hR : Rel M N) : ps_G (pl_Y Q) X r 853 [(0, .ref b), (1, .ref (Q.2.2.2.1 0)), (2, .ref (Q.2.2.2.2 0)), (3, .int (nI i))] [] (M, N) := by
  obtain ⟨o1, o2, he, hR⟩ := sm M N (xs (nI i + nI 1).toNatClampNeg) hR
  refine gw_aload_n C 854 dL_law_853 1 rfl rfl ?_
  refine gw_aload_n C 855 dL_law_854 0 rfl rfl ?_
  refine gw_iload_n C 856 dL_law_855 3 rfl rfl ?_
  refine gw_iconst C 857 dL_law_856 (v := nI 1) (by decide) rfl ?_
  refine gw_iadd C 858 dL_law_857 rfl ?_
  refine gl_sld C 859 dL_law_858 rfl hX (pl_ix hL (by omega)) ?_
  refine gw_cVi C 862 dL_law_859 rfl yv_X5_lacks lk_L_118 [.int (xs ((nI i) + (nI 1)).toNatClampNeg)] [] rfl (r0 := ((fv_X5_lacks (xs ((nI i) + (nI 1)).toNatClampNeg) M).1, ((fv_X5_lacks (xs ((nI i) + (nI 1)).toNatClampNeg) M).2, N))) (pl_cc (Q := Q) (N := N) (ct_X5_lacks (E := (pl_Ec Q N)) (l := ps_l X) (xs ((nI i) + (nI 1)).toNatClampNeg) M o1)) pl_rc rfl (Nat.le_of_ble_eq_true rfl) (Nat.le_of_ble_eq_true rfl) (Nat.le_of_ble_eq_true rfl) ?_
  refine gw_aload_n C 863 dL_law_862 2 rfl rfl ?_
  refine gw_aload_n C 864 dL_law_863 0 rfl rfl ?_
  refine gw_iload_n C 865 dL_law_864 3 rfl rfl ?_
  refine gw_iconst C 866 dL_law_865 (v := nI 1) (by decide) rfl ?_
  refine gw_iadd C 867 dL_law_866 rfl ?_
  refine gl_sld C 868 dL_law_867 rfl hX (pl_ix hL (by omega)) ?_
  refine gw_cVi C 871 dL_law_868 rfl yv_X6_lacks lk_L_121 [.int (xs ((nI i) + (nI 1)).toNatClampNeg)] [.int ((fv_X5_lacks (xs ((nI i) + (nI 1)).toNatClampNeg) M).1)] rfl (r0 := ((fv_X6_lacks (xs ((nI i) + (nI 1)).toNatClampNeg) N).1, ((fv_X5_lacks (xs ((nI i) + (nI 1)).toNatClampNeg) M).2, (fv_X6_lacks (xs ((nI i) + (nI 1)).toNatClampNeg) N).2))) (pl_cm (Q := Q) (M := ((fv_X5_lacks (xs ((nI i) + (nI 1)).toNatClampNeg) M).2)) (ct_X6_lacks (E := (pl_Em Q ((fv_X5_lacks (xs ((nI i) + (nI 1)).toNatClampNeg) M).2))) (l := ps_l X) (xs ((nI i) + (nI 1)).toNatClampNeg) N o2)) pl_rm rfl (Nat.le_of_ble_eq_true rfl) (Nat.le_of_ble_eq_true rfl) (Nat.le_of_ble_eq_true rfl) ?_
  refine gl_iceq C 899 874 dL_law_871 (by decide) he ?_
  exact k _ _ hR
def pl_sim_count (Rel : ps_M → ps_M → Prop) : Prop := ∀ (M N : ps_M) (a1 : Int32), Rel M N → ok_X5_count a1 M ∧ ok_X6_count a1 N ∧ (fv_X5_count a1 M).1 = fv_X6_count a1 N ∧ Rel ((fv_X5_count a1 M).2) N
set_option maxRecDepth 100000 in
set_option maxHeartbeats 4000000 in
theorem law_c26 {Q : pl_Q} {X : ps_X Unit} (C : ps_C (pl_Y Q) X cL_law RL (some .boolean) 10 370 4) {b L : Nat} {xs : Nat → Int32} (hX : pl_scr (pl_Y Q) X b L xs) (hL : L ≤ 2048) (Rel : ps_M → ps_M → Prop) (sm : pl_sim_count Rel) {i : Nat} (hi : i + 4 ≤ L) {r : Unit} (k : ∀ M N : ps_M, Rel M N → ps_G (pl_Y Q) X r 899 [(0, .ref b), (1, .ref (Q.2.2.2.1 0)), (2, .ref (Q.2.2.2.2 0)), (3, .int (nI i))] [] (M, N)) (M N : ps_M) (hR : Rel M N) : ps_G (pl_Y Q) X r 876 [(0, .ref b), (1, .ref (Q.2.2.2.1 0)), (2, .ref (Q.2.2.2.2 0)), (3, .int (nI i))] [] (M, N) := by
  obtain ⟨o1, o2, he, hR⟩ := sm M N (xs (nI i + nI 1).toNatClampNeg) hR
  refine gw_aload_n C 877 dL_law_876 1 rfl rfl ?_
  refine gw_aload_n C 878 dL_law_877 0 rfl rfl ?_
  refine gw_iload_n C 879 dL_law_878 3 rfl rfl ?_
  refine gw_iconst C 880 dL_law_879 (v := nI 1) (by decide) rfl ?_
  refine gw_iadd C 881 dL_law_880 rfl ?_
  refine gl_sld C 882 dL_law_881 rfl hX (pl_ix hL (by omega)) ?_
  refine gw_cVi C 885 dL_law_882 rfl yv_X5_count lk_L_122 [.int (xs ((nI i) + (nI 1)).toNatClampNeg)] [] rfl (r0 := ((fv_X5_count (xs ((nI i) + (nI 1)).toNatClampNeg) M).1, ((fv_X5_count (xs ((nI i) + (nI 1)).toNatClampNeg) M).2, N))) (pl_cc (Q := Q) (N := N) (ct_X5_count (E := (pl_Ec Q N)) (l := ps_l X) (xs ((nI i) + (nI 1)).toNatClampNeg) M o1)) pl_rc rfl (Nat.le_of_ble_eq_true rfl) (Nat.le_of_ble_eq_true rfl) (Nat.le_of_ble_eq_true rfl) ?_
  refine gw_aload_n C 886 dL_law_885 2 rfl rfl ?_
  refine gw_aload_n C 887 dL_law_886 0 rfl rfl ?_
  refine gw_iload_n C 888 dL_law_887 3 rfl rfl ?_
  refine gw_iconst C 889 dL_law_888 (v := nI 1) (by decide) rfl ?_
  refine gw_iadd C 890 dL_law_889 rfl ?_
  refine gl_sld C 891 dL_law_890 rfl hX (pl_ix hL (by omega)) ?_
  refine gw_cVp C 894 dL_law_891 rfl yv_X6_count lk_L_125 [.int (xs ((nI i) + (nI 1)).toNatClampNeg)] [.int ((fv_X5_count (xs ((nI i) + (nI 1)).toNatClampNeg) M).1)] rfl (x0 := (fv_X6_count (xs ((nI i) + (nI 1)).toNatClampNeg) N)) (pl_cm (Q := Q) (M := ((fv_X5_count (xs ((nI i) + (nI 1)).toNatClampNeg) M).2)) (ct_X6_count (E := (pl_Em Q ((fv_X5_count (xs ((nI i) + (nI 1)).toNatClampNeg) M).2))) (l := ps_l X) (xs ((nI i) + (nI 1)).toNatClampNeg) N o2)) pl_rm rfl (Nat.le_of_ble_eq_true rfl) (Nat.le_of_ble_eq_true rfl) (Nat.le_of_ble_eq_true rfl) ?_
  refine gl_iceq C 899 897 dL_law_894 (by decide) he ?_
  exact k _ _ hR
def pl_sims (Rel : ps_M → ps_M → Prop) : Prop := pl_sim_addStation Rel ∧ pl_sim_addClerk Rel ∧ pl_sim_setArrivals Rel ∧ pl_sim_assign Rel ∧ pl_sim_relieve Rel ∧ pl_sim_pass Rel ∧ pl_sim_supply Rel ∧ pl_sim_movePapers Rel ∧ pl_sim_spoil Rel ∧ pl_sim_carryOff Rel ∧ pl_sim_find Rel ∧ pl_sim_countBox Rel ∧ pl_sim_type Rel ∧ pl_sim_clearText Rel ∧ pl_sim_readArrivals Rel ∧ pl_sim_undo Rel ∧ pl_sim_keep Rel ∧ pl_sim_restore Rel ∧ pl_sim_station Rel ∧ pl_sim_papers Rel ∧ pl_sim_clerk Rel ∧ pl_sim_arrivals Rel ∧ pl_sim_free Rel ∧ pl_sim_busiest Rel ∧ pl_sim_queueIn Rel ∧ pl_sim_lacks Rel ∧ pl_sim_count Rel
set_option maxRecDepth 100000 in
set_option maxHeartbeats 8000000 in
/-- the law's loop, from its head, with the two memories in the relation -/
theorem law_loop {Q : pl_Q} {X : ps_X Unit} (C : ps_C (pl_Y Q) X cL_law RL (some .boolean) 10 370 4) {b L : Nat} {xs : Nat → Int32} (hX : pl_scr (pl_Y Q) X b L xs) (hL : L ≤ 2048) (Rel : ps_M → ps_M → Prop) (sm : pl_sims Rel) (RT : ∀ (M : ps_M × ps_M) (pc : Nat) (lv : List (Nat × Value)), decode cL_law pc = .ok (.ireturn, 1) → ps_G (pl_Y Q) X () pc lv [.int 1] M) : ∀ (n i : Nat), i ≤ 2052 → L + 4 ≤ i + n → ∀ M N : ps_M, Rel M N → ps_G (pl_Y Q) X () 18 [(0, .ref b), (1, .ref (Q.2.2.2.1 0)), (2, .ref (Q.2.2.2.2 0)), (3, .int (nI i))] [] (M, N) := by
  intro n
  induction n with
  | zero =>
    intro i hi0 hn M N hR
    refine gw_iload_n C 19 dL_law_18 3 rfl rfl ?_
    refine gw_aload_n C 20 dL_law_19 0 rfl rfl ?_
    refine gl_slen C 21 dL_law_20 rfl hX ?_
    refine gw_iconst C 22 dL_law_21 (v := 4) (by decide) rfl ?_
    refine gw_isub C 23 dL_law_22 rfl ?_
    refine gl_icgt C 905 26 dL_law_23 (by decide) rfl (fun c => ?_) (fun c => ?_)
    · refine gw_iconst C 906 dL_law_905 (v := 1) (by decide) rfl ?_
      exact RT _ _ _ dL_law_906
    · exact absurd (pl_end hL hi0 c) (by omega)
  | succ n ih =>
    intro i hi0 hn M N hR
    refine gw_iload_n C 19 dL_law_18 3 rfl rfl ?_
    refine gw_aload_n C 20 dL_law_19 0 rfl rfl ?_
    refine gl_slen C 21 dL_law_20 rfl hX ?_
    refine gw_iconst C 22 dL_law_21 (v := 4) (by decide) rfl ?_
    refine gw_isub C 23 dL_law_22 rfl ?_
    refine gl_icgt C 905 26 dL_law_23 (by decide) rfl (fun c => ?_) (fun c => ?_)
    · refine gw_iconst C 906 dL_law_905 (v := 1) (by decide) rfl ?_
      exact RT _ _ _ dL_law_906
    have hi := pl_end hL hi0 c
    have k : ∀ M N : ps_M, Rel M N → ps_G (pl_Y Q) X () 899 [(0, .ref b), (1, .ref (Q.2.2.2.1 0)), (2, .ref (Q.2.2.2.2 0)), (3, .int (nI i))] [] (M, N) := by
      intro M N hR
      refine gw_iinc C 902 dL_law_899 rfl (v := nI (i + 4)) (y := nI 4) (by decide) (nI_add i 4) 3 rfl [(0, .ref b), (1, .ref (Q.2.2.2.1 0)), (2, .ref (Q.2.2.2.2 0)), (3, .int (nI (i + 4)))] [1, 2, 3, 0] (by decide) rfl ?_
      refine gw_goto C 18 dL_law_902 (by decide) ?_
      exact ih (i + 4) (by omega) (by omega) M N hR
    refine gw_aload_n C 27 dL_law_26 0 rfl rfl ?_
    refine gw_iload_n C 28 dL_law_27 3 rfl rfl ?_
    refine gl_sld C 29 dL_law_28 rfl hX (vp_in_nI (by omega) (by omega)) ?_
    refine gw_bipush C 31 dL_law_29 (v := 31) (by decide) rfl ?_
    refine gw_iand C 32 dL_law_31 rfl ?_
    generalize xs (nI i).toNatClampNeg &&& 31 = w
    by_cases h0 : w = 0
    · refine gw_tin C 156 (0) (124) h0 (by decide) dL_law_32 (by decide) (by decide) (by decide +kernel) (by decide) ?_
      exact law_c0 C hX hL Rel sm.1 hi k M N hR
    by_cases h1 : w = 1
    · refine gw_tin C 169 (1) (137) h1 (by decide) dL_law_32 (by decide) (by decide) (by decide +kernel) (by decide) ?_
      exact law_c1 C hX hL Rel sm.2.1 hi k M N hR
    by_cases h2 : w = 2
    · refine gw_tin C 202 (2) (170) h2 (by decide) dL_law_32 (by decide) (by decide) (by decide +kernel) (by decide) ?_
      exact law_c2 C hX hL Rel sm.2.2.1 hi k M N hR
    by_cases h3 : w = 3
    · refine gw_tin C 245 (3) (213) h3 (by decide) dL_law_32 (by decide) (by decide) (by decide +kernel) (by decide) ?_
      exact law_c3 C hX hL Rel sm.2.2.2.1 hi k M N hR
    by_cases h4 : w = 4
    · refine gw_tin C 278 (4) (246) h4 (by decide) dL_law_32 (by decide) (by decide) (by decide +kernel) (by decide) ?_
      exact law_c4 C hX hL Rel sm.2.2.2.2.1 hi k M N hR
    by_cases h5 : w = 5
    · refine gw_tin C 301 (5) (269) h5 (by decide) dL_law_32 (by decide) (by decide) (by decide +kernel) (by decide) ?_
      exact law_c5 C hX hL Rel sm.2.2.2.2.2.1 hi k M N hR
    by_cases h6 : w = 6
    · refine gw_tin C 324 (6) (292) h6 (by decide) dL_law_32 (by decide) (by decide) (by decide +kernel) (by decide) ?_
      exact law_c6 C hX hL Rel sm.2.2.2.2.2.2.1 hi k M N hR
    by_cases h7 : w = 7
    · refine gw_tin C 357 (7) (325) h7 (by decide) dL_law_32 (by decide) (by decide) (by decide +kernel) (by decide) ?_
      exact law_c7 C hX hL Rel sm.2.2.2.2.2.2.2.1 hi k M N hR
    by_cases h8 : w = 8
    · refine gw_tin C 400 (8) (368) h8 (by decide) dL_law_32 (by decide) (by decide) (by decide +kernel) (by decide) ?_
      exact law_c8 C hX hL Rel sm.2.2.2.2.2.2.2.2.1 hi k M N hR
    by_cases h9 : w = 9
    · refine gw_tin C 433 (9) (401) h9 (by decide) dL_law_32 (by decide) (by decide) (by decide +kernel) (by decide) ?_
      exact law_c9 C hX hL Rel sm.2.2.2.2.2.2.2.2.2.1 hi k M N hR
    by_cases h10 : w = 10
    · refine gw_tin C 466 (10) (434) h10 (by decide) dL_law_32 (by decide) (by decide) (by decide +kernel) (by decide) ?_
      exact law_c10 C hX hL Rel sm.2.2.2.2.2.2.2.2.2.2.1 hi k M N hR
    by_cases h11 : w = 11
    · refine gw_tin C 499 (11) (467) h11 (by decide) dL_law_32 (by decide) (by decide) (by decide +kernel) (by decide) ?_
      exact law_c11 C hX hL Rel sm.2.2.2.2.2.2.2.2.2.2.2.1 hi k M N hR
    by_cases h12 : w = 12
    · refine gw_tin C 532 (12) (500) h12 (by decide) dL_law_32 (by decide) (by decide) (by decide +kernel) (by decide) ?_
      exact law_c12 C hX hL Rel sm.2.2.2.2.2.2.2.2.2.2.2.2.1 hi k M N hR
    by_cases h13 : w = 13
    · refine gw_tin C 557 (13) (525) h13 (by decide) dL_law_32 (by decide) (by decide) (by decide +kernel) (by decide) ?_
      exact law_c13 C hX hL Rel sm.2.2.2.2.2.2.2.2.2.2.2.2.2.1 hi k M N hR
    by_cases h14 : w = 14
    · refine gw_tin C 570 (14) (538) h14 (by decide) dL_law_32 (by decide) (by decide) (by decide +kernel) (by decide) ?_
      exact law_c14 C hX hL Rel sm.2.2.2.2.2.2.2.2.2.2.2.2.2.2.1 hi k M N hR
    by_cases h15 : w = 15
    · refine gw_tin C 603 (15) (571) h15 (by decide) dL_law_32 (by decide) (by decide) (by decide +kernel) (by decide) ?_
      exact law_c15 C hX hL Rel sm.2.2.2.2.2.2.2.2.2.2.2.2.2.2.2.1 hi k M N hR
    by_cases h16 : w = 16
    · refine gw_tin C 616 (16) (584) h16 (by decide) dL_law_32 (by decide) (by decide) (by decide +kernel) (by decide) ?_
      exact law_c16 C hX hL Rel sm.2.2.2.2.2.2.2.2.2.2.2.2.2.2.2.2.1 hi k M N hR
    by_cases h17 : w = 17
    · refine gw_tin C 629 (17) (597) h17 (by decide) dL_law_32 (by decide) (by decide) (by decide +kernel) (by decide) ?_
      exact law_c17 C hX hL Rel sm.2.2.2.2.2.2.2.2.2.2.2.2.2.2.2.2.2.1 hi k M N hR
    by_cases h18 : w = 18
    · refine gw_tin C 642 (18) (610) h18 (by decide) dL_law_32 (by decide) (by decide) (by decide +kernel) (by decide) ?_
      exact law_c18 C hX hL Rel sm.2.2.2.2.2.2.2.2.2.2.2.2.2.2.2.2.2.2.1 hi k M N hR
    by_cases h19 : w = 19
    · refine gw_tin C 675 (19) (643) h19 (by decide) dL_law_32 (by decide) (by decide) (by decide +kernel) (by decide) ?_
      exact law_c19 C hX hL Rel sm.2.2.2.2.2.2.2.2.2.2.2.2.2.2.2.2.2.2.2.1 hi k M N hR
    by_cases h20 : w = 20
    · refine gw_tin C 708 (20) (676) h20 (by decide) dL_law_32 (by decide) (by decide) (by decide +kernel) (by decide) ?_
      exact law_c20 C hX hL Rel sm.2.2.2.2.2.2.2.2.2.2.2.2.2.2.2.2.2.2.2.2.1 hi k M N hR
    by_cases h21 : w = 21
    · refine gw_tin C 741 (21) (709) h21 (by decide) dL_law_32 (by decide) (by decide) (by decide +kernel) (by decide) ?_
      exact law_c21 C hX hL Rel sm.2.2.2.2.2.2.2.2.2.2.2.2.2.2.2.2.2.2.2.2.2.1 hi k M N hR
    by_cases h22 : w = 22
    · refine gw_tin C 774 (22) (742) h22 (by decide) dL_law_32 (by decide) (by decide) (by decide +kernel) (by decide) ?_
      exact law_c22 C hX hL Rel sm.2.2.2.2.2.2.2.2.2.2.2.2.2.2.2.2.2.2.2.2.2.2.1 hi k M N hR
    by_cases h23 : w = 23
    · refine gw_tin C 797 (23) (765) h23 (by decide) dL_law_32 (by decide) (by decide) (by decide +kernel) (by decide) ?_
      exact law_c23 C hX hL Rel sm.2.2.2.2.2.2.2.2.2.2.2.2.2.2.2.2.2.2.2.2.2.2.2.1 hi k M N hR
    by_cases h24 : w = 24
    · refine gw_tin C 820 (24) (788) h24 (by decide) dL_law_32 (by decide) (by decide) (by decide +kernel) (by decide) ?_
      exact law_c24 C hX hL Rel sm.2.2.2.2.2.2.2.2.2.2.2.2.2.2.2.2.2.2.2.2.2.2.2.2.1 hi k M N hR
    by_cases h25 : w = 25
    · refine gw_tin C 853 (25) (821) h25 (by decide) dL_law_32 (by decide) (by decide) (by decide +kernel) (by decide) ?_
      exact law_c25 C hX hL Rel sm.2.2.2.2.2.2.2.2.2.2.2.2.2.2.2.2.2.2.2.2.2.2.2.2.2.1 hi k M N hR
    by_cases h26 : w = 26
    · refine gw_tin C 876 (26) (844) h26 (by decide) dL_law_32 (by decide) (by decide) (by decide +kernel) (by decide) ?_
      exact law_c26 C hX hL Rel sm.2.2.2.2.2.2.2.2.2.2.2.2.2.2.2.2.2.2.2.2.2.2.2.2.2.2 hi k M N hR
    refine gw_tout C 899 dL_law_32 (by have e0 := ps_ne_int h0 (z := 0) (by decide); have e1 := ps_ne_int h1 (z := 1) (by decide); have e2 := ps_ne_int h2 (z := 2) (by decide); have e3 := ps_ne_int h3 (z := 3) (by decide); have e4 := ps_ne_int h4 (z := 4) (by decide); have e5 := ps_ne_int h5 (z := 5) (by decide); have e6 := ps_ne_int h6 (z := 6) (by decide); have e7 := ps_ne_int h7 (z := 7) (by decide); have e8 := ps_ne_int h8 (z := 8) (by decide); have e9 := ps_ne_int h9 (z := 9) (by decide); have e10 := ps_ne_int h10 (z := 10) (by decide); have e11 := ps_ne_int h11 (z := 11) (by decide); have e12 := ps_ne_int h12 (z := 12) (by decide); have e13 := ps_ne_int h13 (z := 13) (by decide); have e14 := ps_ne_int h14 (z := 14) (by decide); have e15 := ps_ne_int h15 (z := 15) (by decide); have e16 := ps_ne_int h16 (z := 16) (by decide); have e17 := ps_ne_int h17 (z := 17) (by decide); have e18 := ps_ne_int h18 (z := 18) (by decide); have e19 := ps_ne_int h19 (z := 19) (by decide); have e20 := ps_ne_int h20 (z := 20) (by decide); have e21 := ps_ne_int h21 (z := 21) (by decide); have e22 := ps_ne_int h22 (z := 22) (by decide); have e23 := ps_ne_int h23 (z := 23) (by decide); have e24 := ps_ne_int h24 (z := 24) (by decide); have e25 := ps_ne_int h25 (z := 25) (by decide); have e26 := ps_ne_int h26 (z := 26) (by decide); omega) (by decide) ?_
    exact k M N hR
