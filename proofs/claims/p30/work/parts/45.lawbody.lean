def fv_L_law_384 (L : Nat) (xs : Nat → Int32) (x4 : Int32) (x5 : Int64) (s0 : Int32) (M : ps_M) : Int32 × ps_M := if s0 = 0 then (if (fv_X5_count (6 : Int32) M).1 = 0 then (if (fv_X5_count (2 : Int32) ((fv_X5_count (6 : Int32) M).2)).1 = x4 then (if (fv_L_clerks ((fv_X5_count (2 : Int32) ((fv_X5_count (6 : Int32) M).2)).2)).1 = 0 then (((0 : Int32), (fv_L_clerks ((fv_X5_count (2 : Int32) ((fv_X5_count (6 : Int32) M).2)).2)).2)) else (if (fv_X5_undo ((fv_L_clerks ((fv_X5_count (2 : Int32) ((fv_X5_count (6 : Int32) M).2)).2)).2)).1 < 0 then (((0 : Int32), (fv_X5_undo ((fv_L_clerks ((fv_X5_count (2 : Int32) ((fv_X5_count (6 : Int32) M).2)).2)).2)).2)) else (if (lg_cmp ((fv_L_mark ((fv_X5_undo ((fv_L_clerks ((fv_X5_count (2 : Int32) ((fv_X5_count (6 : Int32) M).2)).2)).2)).2)).1) x5) = 0 then (((1 : Int32), (fv_L_mark ((fv_X5_undo ((fv_L_clerks ((fv_X5_count (2 : Int32) ((fv_X5_count (6 : Int32) M).2)).2)).2)).2)).2)) else (((0 : Int32), (fv_L_mark ((fv_X5_undo ((fv_L_clerks ((fv_X5_count (2 : Int32) ((fv_X5_count (6 : Int32) M).2)).2)).2)).2)).2))))) else (((0 : Int32), (fv_X5_count (2 : Int32) ((fv_X5_count (6 : Int32) M).2)).2))) else (((0 : Int32), (fv_X5_count (6 : Int32) M).2))) else (((0 : Int32), M))
def ok_L_law_384 (L : Nat) (xs : Nat → Int32) (x4 : Int32) (x5 : Int64) (s0 : Int32) (M : ps_M) : Prop := (s0 = 0 → ((ok_X5_count (6 : Int32) M) ∧ (((fv_X5_count (6 : Int32) M).1 = 0 → ((ok_X5_count (2 : Int32) ((fv_X5_count (6 : Int32) M).2)) ∧ (((fv_X5_count (2 : Int32) ((fv_X5_count (6 : Int32) M).2)).1 = x4 → ((ok_L_clerks ((fv_X5_count (2 : Int32) ((fv_X5_count (6 : Int32) M).2)).2)) ∧ (((fv_L_clerks ((fv_X5_count (2 : Int32) ((fv_X5_count (6 : Int32) M).2)).2)).1 = 0 → True) ∧ (¬ ((fv_L_clerks ((fv_X5_count (2 : Int32) ((fv_X5_count (6 : Int32) M).2)).2)).1 = 0) → ((ok_X5_undo ((fv_L_clerks ((fv_X5_count (2 : Int32) ((fv_X5_count (6 : Int32) M).2)).2)).2)) ∧ (((fv_X5_undo ((fv_L_clerks ((fv_X5_count (2 : Int32) ((fv_X5_count (6 : Int32) M).2)).2)).2)).1 < 0 → True) ∧ (¬ ((fv_X5_undo ((fv_L_clerks ((fv_X5_count (2 : Int32) ((fv_X5_count (6 : Int32) M).2)).2)).2)).1 < 0) → ((ok_L_mark ((fv_X5_undo ((fv_L_clerks ((fv_X5_count (2 : Int32) ((fv_X5_count (6 : Int32) M).2)).2)).2)).2)) ∧ True)))))))) ∧ (¬ ((fv_X5_count (2 : Int32) ((fv_X5_count (6 : Int32) M).2)).1 = x4) → True)))) ∧ (¬ ((fv_X5_count (6 : Int32) M).1 = 0) → True)))) ∧ (¬ (s0 = 0) → True)
set_option maxRecDepth 100000 in
set_option maxHeartbeats 4000000 in
theorem bw_L_law_384 {E : ps_E} {X : ps_X (Int32 × ps_M)} (C : ps_C (ps_Yc E) X cL_law RL (some .boolean) 7 158 12) (RT : ps_RI (ps_Yc E) X cL_law .boolean) {b L : Nat} {xs : Nat → Int32} (hX : pl_scr (ps_Yc E) X b L xs) (hL : L ≤ 260) (x4 : Int32) (x5 : Int64) (s0 : Int32) (M : ps_M) (hk : ok_L_law_384 L xs x4 x5 s0 M) : ps_G (ps_Yc E) X (fv_L_law_384 L xs x4 x5 s0 M) 384 [(1, .ref (ps_ad E 0)), (4, .int x4), (5, .long x5)] [.int s0] M := by
  unfold fv_L_law_384
  unfold ok_L_law_384 at hk
  refine gw_if_ne C 434 387 dL_law_384 (by decide) rfl (fun c384 => ?_) (fun c384 => ?_)
  · refine gw_aload_n C 388 dL_law_387 0 rfl rfl ?_
    refine gw_bipush C 390 dL_law_388 (v := 6) (by decide) rfl ?_
    refine gw_cVi C 393 dL_law_390 rfl yv_X5_count lk_L_13 [.int (6 : Int32)] [] rfl (ct_X5_count (E := E) (l := ps_l X) (6 : Int32) M (hk.1 c384).1) rc_P rfl (Nat.le_of_ble_eq_true rfl) (Nat.le_of_ble_eq_true rfl) (Nat.le_of_ble_eq_true rfl) ?_
    refine gw_if_ne C 434 396 dL_law_393 (by decide) rfl (fun c393 => ?_) (fun c393 => ?_)
    · refine gw_aload_n C 397 dL_law_396 0 rfl rfl ?_
      refine gw_iconst C 398 dL_law_397 (v := 2) (by decide) rfl ?_
      refine gw_cVi C 401 dL_law_398 rfl yv_X5_count lk_L_13 [.int (2 : Int32)] [] rfl (ct_X5_count (E := E) (l := ps_l X) (2 : Int32) ((fv_X5_count (6 : Int32) M).2) ((hk.1 c384).2.1 c393).1) rc_P rfl (Nat.le_of_ble_eq_true rfl) (Nat.le_of_ble_eq_true rfl) (Nat.le_of_ble_eq_true rfl) ?_
      refine gw_iload C 403 dL_law_401 1 rfl rfl ?_
      refine gw_ic_ne C 434 406 dL_law_403 (by decide) rfl (fun c403 => ?_) (fun c403 => ?_)
      · refine gw_aload_n C 407 dL_law_406 0 rfl rfl ?_
        refine gw_cSi C 410 dL_law_407 rfl yv_L_clerks lk_L_126 [.ref (ps_ad E 0)] [] rfl (ct_L_clerks (E := E) (l := ps_l X) ((fv_X5_count (2 : Int32) ((fv_X5_count (6 : Int32) M).2)).2) (((hk.1 c384).2.1 c393).2.1 c403).1) rfl (Nat.le_of_ble_eq_true rfl) (Nat.le_of_ble_eq_true rfl) (Nat.le_of_ble_eq_true rfl) ?_
        refine gw_if_eq C 434 413 dL_law_410 (by decide) rfl (fun c410 => ?_) (fun c410 => ?_)
        · refine gw_iconst C 435 dL_law_434 (v := 0) (by decide) rfl ?_
          exact RT _ _ _ _ dL_law_435 ps_nb0
        · refine gw_aload_n C 414 dL_law_413 0 rfl rfl ?_
          refine gw_cVi C 417 dL_law_414 rfl yv_X5_undo lk_L_92 [] [] rfl (ct_X5_undo (E := E) (l := ps_l X) ((fv_L_clerks ((fv_X5_count (2 : Int32) ((fv_X5_count (6 : Int32) M).2)).2)).2) ((((hk.1 c384).2.1 c393).2.1 c403).2.2 c410).1) rc_P rfl (Nat.le_of_ble_eq_true rfl) (Nat.le_of_ble_eq_true rfl) (Nat.le_of_ble_eq_true rfl) ?_
          refine gw_if_lt C 434 420 dL_law_417 (by decide) rfl (fun c417 => ?_) (fun c417 => ?_)
          · refine gw_iconst C 435 dL_law_434 (v := 0) (by decide) rfl ?_
            exact RT _ _ _ _ dL_law_435 ps_nb0
          · refine gw_aload_n C 421 dL_law_420 0 rfl rfl ?_
            refine gw_cSl C 424 dL_law_421 rfl yv_L_mark lk_L_32 [.ref (ps_ad E 0)] [] rfl (ct_L_mark (E := E) (l := ps_l X) ((fv_X5_undo ((fv_L_clerks ((fv_X5_count (2 : Int32) ((fv_X5_count (6 : Int32) M).2)).2)).2)).2) (((((hk.1 c384).2.1 c393).2.1 c403).2.2 c410).2.2 c417).1) rfl (Nat.le_of_ble_eq_true rfl) (Nat.le_of_ble_eq_true rfl) (Nat.le_of_ble_eq_true rfl) ?_
            refine gw_lload C 426 dL_law_424 2 rfl rfl ?_
            refine gw_lcmp C 427 dL_law_426 rfl ?_
            refine gw_if_ne C 434 430 dL_law_427 (by decide) rfl (fun c427 => ?_) (fun c427 => ?_)
            · refine gw_iconst C 431 dL_law_430 (v := 1) (by decide) rfl ?_
              refine gw_goto C 435 dL_law_431 (by decide) ?_
              exact RT _ _ _ _ dL_law_435 ps_nb1
            · refine gw_iconst C 435 dL_law_434 (v := 0) (by decide) rfl ?_
              exact RT _ _ _ _ dL_law_435 ps_nb0
      · refine gw_iconst C 435 dL_law_434 (v := 0) (by decide) rfl ?_
        exact RT _ _ _ _ dL_law_435 ps_nb0
    · refine gw_iconst C 435 dL_law_434 (v := 0) (by decide) rfl ?_
      exact RT _ _ _ _ dL_law_435 ps_nb0
  · refine gw_iconst C 435 dL_law_434 (v := 0) (by decide) rfl ?_
    exact RT _ _ _ _ dL_law_435 ps_nb0
def fv_L_law_318 (L : Nat) (xs : Nat → Int32) (rec194 : Int32 → Int32 → ps_M → Int32 × ps_M) (x4 : Int32) (x5 : Int32) (s1 : Int32) (s0 : Int32) (M : ps_M) : Int32 × ps_M := if s0 = s1 then (rec194 x4 (x5 + (1 : Int32)) M) else (((0 : Int32), M))
def ok_L_law_318 (L : Nat) (xs : Nat → Int32) (rec194 : Int32 → Int32 → ps_M → Int32 × ps_M) (okr194 : Int32 → Int32 → ps_M → Prop) (x4 : Int32) (x5 : Int32) (s1 : Int32) (s0 : Int32) (M : ps_M) : Prop := (s0 = s1 → (okr194 x4 (x5 + (1 : Int32)) M)) ∧ (¬ (s0 = s1) → True)
set_option maxRecDepth 100000 in
set_option maxHeartbeats 4000000 in
theorem bw_L_law_318 {E : ps_E} {X : ps_X (Int32 × ps_M)} (C : ps_C (ps_Yc E) X cL_law RL (some .boolean) 7 158 12) (RT : ps_RI (ps_Yc E) X cL_law .boolean) {b L : Nat} {xs : Nat → Int32} (hX : pl_scr (ps_Yc E) X b L xs) (hL : L ≤ 260) (rec194 : Int32 → Int32 → ps_M → Int32 × ps_M) (okr194 : Int32 → Int32 → ps_M → Prop) (hr194 : ∀ (x4 : Int32) (x5 : Int32)  (M : ps_M), okr194 x4 x5 M → ps_G (ps_Yc E) X (rec194 x4 x5 M) 194 [(0, .ref b), (1, .ref (ps_ad E 0)), (2, .ref (ps_ad E 197)), (4, .int x4), (5, .int x5)] [] M) (x4 : Int32) (x5 : Int32) (s1 : Int32) (s0 : Int32) (M : ps_M) (hk : ok_L_law_318 L xs rec194 okr194 x4 x5 s1 s0 M) : ps_G (ps_Yc E) X (fv_L_law_318 L xs rec194 x4 x5 s1 s0 M) 318 [(0, .ref b), (1, .ref (ps_ad E 0)), (2, .ref (ps_ad E 197)), (4, .int x4), (5, .int x5)] [.int s1, .int s0] M := by
  unfold fv_L_law_318
  unfold ok_L_law_318 at hk
  refine gw_ic_eq C 323 321 dL_law_318 (by decide) rfl (fun c318 => ?_) (fun c318 => ?_)
  · refine gw_iinc C 326 dL_law_323 rfl (y := 1) (by decide) rfl 4 rfl [(0, .ref b), (1, .ref (ps_ad E 0)), (2, .ref (ps_ad E 197)), (4, .int x4), (5, .int (x5 + (1 : Int32)))] [1, 2, 3, 4, 0] (by decide) rfl ?_
    refine gw_goto C 194 dL_law_326 (by decide) ?_
    exact hr194 x4 (x5 + (1 : Int32)) M (hk.1 c318)
  · refine gw_iconst C 322 dL_law_321 (v := 0) (by decide) rfl ?_
    exact RT _ _ _ _ dL_law_322 ps_nb0
def fv_L_law_304 (L : Nat) (xs : Nat → Int32) (rec194 : Int32 → Int32 → ps_M → Int32 × ps_M) (x4 : Int32) (x5 : Int32) (x8 : Int32) (s0 : Int32) (M : ps_M) : Int32 × ps_M := if (4 : Int32) ≤ x8 then (fv_L_law_318 L xs rec194 x4 x5 (4 : Int32) s0 M) else (fv_L_law_318 L xs rec194 x4 x5 (x8 + (1 : Int32)) s0 M)
def ok_L_law_304 (L : Nat) (xs : Nat → Int32) (rec194 : Int32 → Int32 → ps_M → Int32 × ps_M) (okr194 : Int32 → Int32 → ps_M → Prop) (x4 : Int32) (x5 : Int32) (x8 : Int32) (s0 : Int32) (M : ps_M) : Prop := ((4 : Int32) ≤ x8 → (ok_L_law_318 L xs rec194 okr194 x4 x5 (4 : Int32) s0 M)) ∧ (¬ ((4 : Int32) ≤ x8) → (ok_L_law_318 L xs rec194 okr194 x4 x5 (x8 + (1 : Int32)) s0 M))
set_option maxRecDepth 100000 in
set_option maxHeartbeats 4000000 in
theorem bw_L_law_304 {E : ps_E} {X : ps_X (Int32 × ps_M)} (C : ps_C (ps_Yc E) X cL_law RL (some .boolean) 7 158 12) (RT : ps_RI (ps_Yc E) X cL_law .boolean) {b L : Nat} {xs : Nat → Int32} (hX : pl_scr (ps_Yc E) X b L xs) (hL : L ≤ 260) (rec194 : Int32 → Int32 → ps_M → Int32 × ps_M) (okr194 : Int32 → Int32 → ps_M → Prop) (hr194 : ∀ (x4 : Int32) (x5 : Int32)  (M : ps_M), okr194 x4 x5 M → ps_G (ps_Yc E) X (rec194 x4 x5 M) 194 [(0, .ref b), (1, .ref (ps_ad E 0)), (2, .ref (ps_ad E 197)), (4, .int x4), (5, .int x5)] [] M) (x4 : Int32) (x5 : Int32) (x8 : Int32) (s0 : Int32) (M : ps_M) (hk : ok_L_law_304 L xs rec194 okr194 x4 x5 x8 s0 M) : ps_G (ps_Yc E) X (fv_L_law_304 L xs rec194 x4 x5 x8 s0 M) 304 [(0, .ref b), (1, .ref (ps_ad E 0)), (2, .ref (ps_ad E 197)), (4, .int x4), (5, .int x5), (8, .int x8)] [.int s0] M := by
  unfold fv_L_law_304
  unfold ok_L_law_304 at hk
  refine gw_iload C 306 dL_law_304 5 rfl rfl ?_
  refine gw_iconst C 307 dL_law_306 (v := 4) (by decide) rfl ?_
  refine gw_ic_ge C 317 310 dL_law_307 (by decide) rfl (fun c307 => ?_) (fun c307 => ?_)
  · refine gw_iconst C 318 dL_law_317 (v := 4) (by decide) rfl ?_
    refine gw_sub C [(0, .ref b), (1, .ref (ps_ad E 0)), (2, .ref (ps_ad E 197)), (4, .int x4), (5, .int x5)] [0, 1, 2, 3, 4] rfl ?_
    exact bw_L_law_318 C RT hX hL _ _ hr194 x4 x5 (4 : Int32) s0 M (hk.1 c307)
  · refine gw_iload C 312 dL_law_310 5 rfl rfl ?_
    refine gw_iconst C 313 dL_law_312 (v := 1) (by decide) rfl ?_
    refine gw_iadd C 314 dL_law_313 rfl ?_
    refine gw_goto C 318 dL_law_314 (by decide) ?_
    refine gw_sub C [(0, .ref b), (1, .ref (ps_ad E 0)), (2, .ref (ps_ad E 197)), (4, .int x4), (5, .int x5)] [0, 1, 2, 3, 4] rfl ?_
    exact bw_L_law_318 C RT hX hL _ _ hr194 x4 x5 (x8 + (1 : Int32)) s0 M (hk.2 c307)
def fv_L_law_278 (L : Nat) (xs : Nat → Int32) (rec194 : Int32 → Int32 → ps_M → Int32 × ps_M) (x4 : Int32) (x5 : Int32) (x8 : Int32) (x9 : Int64) (s0 : Int64) (M : ps_M) : Int32 × ps_M := if (lg_cmp s0 x9) = 0 then (if (fv_X5_count (14 : Int32) M).1 = x8 then (rec194 x4 (x5 + (1 : Int32)) ((fv_X5_count (14 : Int32) M).2)) else (((0 : Int32), (fv_X5_count (14 : Int32) M).2))) else (((0 : Int32), M))
def ok_L_law_278 (L : Nat) (xs : Nat → Int32) (rec194 : Int32 → Int32 → ps_M → Int32 × ps_M) (okr194 : Int32 → Int32 → ps_M → Prop) (x4 : Int32) (x5 : Int32) (x8 : Int32) (x9 : Int64) (s0 : Int64) (M : ps_M) : Prop := ((lg_cmp s0 x9) = 0 → ((ok_X5_count (14 : Int32) M) ∧ (((fv_X5_count (14 : Int32) M).1 = x8 → (okr194 x4 (x5 + (1 : Int32)) ((fv_X5_count (14 : Int32) M).2))) ∧ (¬ ((fv_X5_count (14 : Int32) M).1 = x8) → True)))) ∧ (¬ ((lg_cmp s0 x9) = 0) → True)
set_option maxRecDepth 100000 in
set_option maxHeartbeats 4000000 in
theorem bw_L_law_278 {E : ps_E} {X : ps_X (Int32 × ps_M)} (C : ps_C (ps_Yc E) X cL_law RL (some .boolean) 7 158 12) (RT : ps_RI (ps_Yc E) X cL_law .boolean) {b L : Nat} {xs : Nat → Int32} (hX : pl_scr (ps_Yc E) X b L xs) (hL : L ≤ 260) (rec194 : Int32 → Int32 → ps_M → Int32 × ps_M) (okr194 : Int32 → Int32 → ps_M → Prop) (hr194 : ∀ (x4 : Int32) (x5 : Int32)  (M : ps_M), okr194 x4 x5 M → ps_G (ps_Yc E) X (rec194 x4 x5 M) 194 [(0, .ref b), (1, .ref (ps_ad E 0)), (2, .ref (ps_ad E 197)), (4, .int x4), (5, .int x5)] [] M) (x4 : Int32) (x5 : Int32) (x8 : Int32) (x9 : Int64) (s0 : Int64) (M : ps_M) (hk : ok_L_law_278 L xs rec194 okr194 x4 x5 x8 x9 s0 M) : ps_G (ps_Yc E) X (fv_L_law_278 L xs rec194 x4 x5 x8 x9 s0 M) 278 [(0, .ref b), (1, .ref (ps_ad E 0)), (2, .ref (ps_ad E 197)), (4, .int x4), (5, .int x5), (8, .int x8), (9, .long x9)] [.long s0] M := by
  unfold fv_L_law_278
  unfold ok_L_law_278 at hk
  refine gw_lload C 280 dL_law_278 6 rfl rfl ?_
  refine gw_lcmp C 281 dL_law_280 rfl ?_
  refine gw_if_ne C 321 284 dL_law_281 (by decide) rfl (fun c281 => ?_) (fun c281 => ?_)
  · refine gw_aload_n C 285 dL_law_284 1 rfl rfl ?_
    refine gw_bipush C 287 dL_law_285 (v := 14) (by decide) rfl ?_
    refine gw_cVi C 290 dL_law_287 rfl yv_X5_count lk_L_13 [.int (14 : Int32)] [] rfl (ct_X5_count (E := E) (l := ps_l X) (14 : Int32) M (hk.1 c281).1) rc_P rfl (Nat.le_of_ble_eq_true rfl) (Nat.le_of_ble_eq_true rfl) (Nat.le_of_ble_eq_true rfl) ?_
    refine gw_iload C 292 dL_law_290 5 rfl rfl ?_
    refine gw_ic_eq C 323 295 dL_law_292 (by decide) rfl (fun c292 => ?_) (fun c292 => ?_)
    · refine gw_iinc C 326 dL_law_323 rfl (y := 1) (by decide) rfl 4 rfl [(0, .ref b), (1, .ref (ps_ad E 0)), (2, .ref (ps_ad E 197)), (4, .int x4), (5, .int (x5 + (1 : Int32))), (8, .int x8), (9, .long x9)] [1, 2, 3, 4, 0, 5, 6] (by decide) rfl ?_
      refine gw_goto C 194 dL_law_326 (by decide) ?_
      refine gw_sub C [(0, .ref b), (1, .ref (ps_ad E 0)), (2, .ref (ps_ad E 197)), (4, .int x4), (5, .int (x5 + (1 : Int32)))] [0, 1, 2, 3, 4] rfl ?_
      exact hr194 x4 (x5 + (1 : Int32)) ((fv_X5_count (14 : Int32) M).2) ((hk.1 c281).2.1 c292)
    · refine gw_goto C 321 dL_law_295 (by decide) ?_
      refine gw_iconst C 322 dL_law_321 (v := 0) (by decide) rfl ?_
      exact RT _ _ _ _ dL_law_322 ps_nb0
  · refine gw_iconst C 322 dL_law_321 (v := 0) (by decide) rfl ?_
    exact RT _ _ _ _ dL_law_322 ps_nb0
def fv_L_law_194 (L : Nat) (xs : Nat → Int32) : Nat → Int32 → Int32 → ps_M → Int32 × ps_M
  | 0, _, _, M => (0, M)
  | n + 1, x4, x5, M => if (26 : Int32) ≤ x5 then (if (fv_L_stations M).1 = 0 then (((0 : Int32), (fv_L_stations M).2)) else (if (fv_L_clerks ((fv_L_stations M).2)).1 = 0 then (((0 : Int32), (fv_L_clerks ((fv_L_stations M).2)).2)) else (if (fv_L_lacks (pl_ce L xs (60 : Int32)) ((fv_L_clerks ((fv_L_stations M).2)).2)).1 = 0 then (((0 : Int32), (fv_L_lacks (pl_ce L xs (60 : Int32)) ((fv_L_clerks ((fv_L_stations M).2)).2)).2)) else (if (fv_L_fails ((fv_L_lacks (pl_ce L xs (60 : Int32)) ((fv_L_clerks ((fv_L_stations M).2)).2)).2)).1 = 0 then (((0 : Int32), (fv_L_fails ((fv_L_lacks (pl_ce L xs (60 : Int32)) ((fv_L_clerks ((fv_L_stations M).2)).2)).2)).2)) else (if (fv_X5_restore ((fv_L_mark ((fv_L_fails ((fv_L_lacks (pl_ce L xs (60 : Int32)) ((fv_L_clerks ((fv_L_stations M).2)).2)).2)).2)).2)).1 = 0 then (fv_L_law_384 L xs x4 ((fv_L_mark ((fv_L_fails ((fv_L_lacks (pl_ce L xs (60 : Int32)) ((fv_L_clerks ((fv_L_stations M).2)).2)).2)).2)).1) ((fv_X5_count (0 : Int32) ((fv_X5_restore ((fv_L_mark ((fv_L_fails ((fv_L_lacks (pl_ce L xs (60 : Int32)) ((fv_L_clerks ((fv_L_stations M).2)).2)).2)).2)).2)).2)).1) ((fv_X5_count (0 : Int32) ((fv_X5_restore ((fv_L_mark ((fv_L_fails ((fv_L_lacks (pl_ce L xs (60 : Int32)) ((fv_L_clerks ((fv_L_stations M).2)).2)).2)).2)).2)).2)).2)) else (((0 : Int32), (fv_X5_restore ((fv_L_mark ((fv_L_fails ((fv_L_lacks (pl_ce L xs (60 : Int32)) ((fv_L_clerks ((fv_L_stations M).2)).2)).2)).2)).2)).2))))))) else (if (((pl_ce L xs ((34 : Int32) + x5)) >>> ((20 : Int32) &&& 31)) &&& (3 : Int32)) = 0 then (if (fv_L_passes (pl_ce L xs ((8 : Int32) + x5)) M).1 = 0 then (((0 : Int32), (fv_L_passes (pl_ce L xs ((8 : Int32) + x5)) M).2)) else (fv_L_law_194 L xs n x4 (x5 + (1 : Int32)) ((fv_L_passes (pl_ce L xs ((8 : Int32) + x5)) M).2))) else (if 0 ≤ (fv_L_act (pl_ce L xs ((8 : Int32) + x5)) (pl_ce L xs ((34 : Int32) + x5)) ((fv_L_mark ((fv_X5_count (14 : Int32) M).2)).2)).1 then (fv_L_law_304 L xs (fun a4 a5 M => fv_L_law_194 L xs n a4 a5 M) x4 x5 ((fv_X5_count (14 : Int32) M).1) ((fv_X5_count (14 : Int32) ((fv_L_act (pl_ce L xs ((8 : Int32) + x5)) (pl_ce L xs ((34 : Int32) + x5)) ((fv_L_mark ((fv_X5_count (14 : Int32) M).2)).2)).2)).1) ((fv_X5_count (14 : Int32) ((fv_L_act (pl_ce L xs ((8 : Int32) + x5)) (pl_ce L xs ((34 : Int32) + x5)) ((fv_L_mark ((fv_X5_count (14 : Int32) M).2)).2)).2)).2)) else (fv_L_law_278 L xs (fun a4 a5 M => fv_L_law_194 L xs n a4 a5 M) x4 x5 ((fv_X5_count (14 : Int32) M).1) ((fv_L_mark ((fv_X5_count (14 : Int32) M).2)).1) ((fv_L_mark ((fv_L_act (pl_ce L xs ((8 : Int32) + x5)) (pl_ce L xs ((34 : Int32) + x5)) ((fv_L_mark ((fv_X5_count (14 : Int32) M).2)).2)).2)).1) ((fv_L_mark ((fv_L_act (pl_ce L xs ((8 : Int32) + x5)) (pl_ce L xs ((34 : Int32) + x5)) ((fv_L_mark ((fv_X5_count (14 : Int32) M).2)).2)).2)).2))))
theorem fv_L_law_194_s (L : Nat) (xs : Nat → Int32) (n : Nat) (x4 : Int32) (x5 : Int32) (M : ps_M) : fv_L_law_194 L xs (n + 1) x4 x5 M = (if (26 : Int32) ≤ x5 then (if (fv_L_stations M).1 = 0 then (((0 : Int32), (fv_L_stations M).2)) else (if (fv_L_clerks ((fv_L_stations M).2)).1 = 0 then (((0 : Int32), (fv_L_clerks ((fv_L_stations M).2)).2)) else (if (fv_L_lacks (pl_ce L xs (60 : Int32)) ((fv_L_clerks ((fv_L_stations M).2)).2)).1 = 0 then (((0 : Int32), (fv_L_lacks (pl_ce L xs (60 : Int32)) ((fv_L_clerks ((fv_L_stations M).2)).2)).2)) else (if (fv_L_fails ((fv_L_lacks (pl_ce L xs (60 : Int32)) ((fv_L_clerks ((fv_L_stations M).2)).2)).2)).1 = 0 then (((0 : Int32), (fv_L_fails ((fv_L_lacks (pl_ce L xs (60 : Int32)) ((fv_L_clerks ((fv_L_stations M).2)).2)).2)).2)) else (if (fv_X5_restore ((fv_L_mark ((fv_L_fails ((fv_L_lacks (pl_ce L xs (60 : Int32)) ((fv_L_clerks ((fv_L_stations M).2)).2)).2)).2)).2)).1 = 0 then (fv_L_law_384 L xs x4 ((fv_L_mark ((fv_L_fails ((fv_L_lacks (pl_ce L xs (60 : Int32)) ((fv_L_clerks ((fv_L_stations M).2)).2)).2)).2)).1) ((fv_X5_count (0 : Int32) ((fv_X5_restore ((fv_L_mark ((fv_L_fails ((fv_L_lacks (pl_ce L xs (60 : Int32)) ((fv_L_clerks ((fv_L_stations M).2)).2)).2)).2)).2)).2)).1) ((fv_X5_count (0 : Int32) ((fv_X5_restore ((fv_L_mark ((fv_L_fails ((fv_L_lacks (pl_ce L xs (60 : Int32)) ((fv_L_clerks ((fv_L_stations M).2)).2)).2)).2)).2)).2)).2)) else (((0 : Int32), (fv_X5_restore ((fv_L_mark ((fv_L_fails ((fv_L_lacks (pl_ce L xs (60 : Int32)) ((fv_L_clerks ((fv_L_stations M).2)).2)).2)).2)).2)).2))))))) else (if (((pl_ce L xs ((34 : Int32) + x5)) >>> ((20 : Int32) &&& 31)) &&& (3 : Int32)) = 0 then (if (fv_L_passes (pl_ce L xs ((8 : Int32) + x5)) M).1 = 0 then (((0 : Int32), (fv_L_passes (pl_ce L xs ((8 : Int32) + x5)) M).2)) else (fv_L_law_194 L xs n x4 (x5 + (1 : Int32)) ((fv_L_passes (pl_ce L xs ((8 : Int32) + x5)) M).2))) else (if 0 ≤ (fv_L_act (pl_ce L xs ((8 : Int32) + x5)) (pl_ce L xs ((34 : Int32) + x5)) ((fv_L_mark ((fv_X5_count (14 : Int32) M).2)).2)).1 then (fv_L_law_304 L xs (fun a4 a5 M => fv_L_law_194 L xs n a4 a5 M) x4 x5 ((fv_X5_count (14 : Int32) M).1) ((fv_X5_count (14 : Int32) ((fv_L_act (pl_ce L xs ((8 : Int32) + x5)) (pl_ce L xs ((34 : Int32) + x5)) ((fv_L_mark ((fv_X5_count (14 : Int32) M).2)).2)).2)).1) ((fv_X5_count (14 : Int32) ((fv_L_act (pl_ce L xs ((8 : Int32) + x5)) (pl_ce L xs ((34 : Int32) + x5)) ((fv_L_mark ((fv_X5_count (14 : Int32) M).2)).2)).2)).2)) else (fv_L_law_278 L xs (fun a4 a5 M => fv_L_law_194 L xs n a4 a5 M) x4 x5 ((fv_X5_count (14 : Int32) M).1) ((fv_L_mark ((fv_X5_count (14 : Int32) M).2)).1) ((fv_L_mark ((fv_L_act (pl_ce L xs ((8 : Int32) + x5)) (pl_ce L xs ((34 : Int32) + x5)) ((fv_L_mark ((fv_X5_count (14 : Int32) M).2)).2)).2)).1) ((fv_L_mark ((fv_L_act (pl_ce L xs ((8 : Int32) + x5)) (pl_ce L xs ((34 : Int32) + x5)) ((fv_L_mark ((fv_X5_count (14 : Int32) M).2)).2)).2)).2))))) := rfl
def ok_L_law_194 (L : Nat) (xs : Nat → Int32) : Nat → Int32 → Int32 → ps_M → Prop
  | 0, _, _, _ => False
  | n + 1, x4, x5, M => ((26 : Int32) ≤ x5 → ((ok_L_stations M) ∧ (((fv_L_stations M).1 = 0 → True) ∧ (¬ ((fv_L_stations M).1 = 0) → ((ok_L_clerks ((fv_L_stations M).2)) ∧ (((fv_L_clerks ((fv_L_stations M).2)).1 = 0 → True) ∧ (¬ ((fv_L_clerks ((fv_L_stations M).2)).1 = 0) → ((¬ (60 : Int32) < 0) ∧ ((ok_L_lacks (pl_ce L xs (60 : Int32)) ((fv_L_clerks ((fv_L_stations M).2)).2)) ∧ (((fv_L_lacks (pl_ce L xs (60 : Int32)) ((fv_L_clerks ((fv_L_stations M).2)).2)).1 = 0 → True) ∧ (¬ ((fv_L_lacks (pl_ce L xs (60 : Int32)) ((fv_L_clerks ((fv_L_stations M).2)).2)).1 = 0) → ((ok_L_fails ((fv_L_lacks (pl_ce L xs (60 : Int32)) ((fv_L_clerks ((fv_L_stations M).2)).2)).2)) ∧ (((fv_L_fails ((fv_L_lacks (pl_ce L xs (60 : Int32)) ((fv_L_clerks ((fv_L_stations M).2)).2)).2)).1 = 0 → True) ∧ (¬ ((fv_L_fails ((fv_L_lacks (pl_ce L xs (60 : Int32)) ((fv_L_clerks ((fv_L_stations M).2)).2)).2)).1 = 0) → ((ok_L_mark ((fv_L_fails ((fv_L_lacks (pl_ce L xs (60 : Int32)) ((fv_L_clerks ((fv_L_stations M).2)).2)).2)).2)) ∧ ((ok_X5_restore ((fv_L_mark ((fv_L_fails ((fv_L_lacks (pl_ce L xs (60 : Int32)) ((fv_L_clerks ((fv_L_stations M).2)).2)).2)).2)).2)) ∧ (((fv_X5_restore ((fv_L_mark ((fv_L_fails ((fv_L_lacks (pl_ce L xs (60 : Int32)) ((fv_L_clerks ((fv_L_stations M).2)).2)).2)).2)).2)).1 = 0 → ((ok_X5_count (0 : Int32) ((fv_X5_restore ((fv_L_mark ((fv_L_fails ((fv_L_lacks (pl_ce L xs (60 : Int32)) ((fv_L_clerks ((fv_L_stations M).2)).2)).2)).2)).2)).2)) ∧ (ok_L_law_384 L xs x4 ((fv_L_mark ((fv_L_fails ((fv_L_lacks (pl_ce L xs (60 : Int32)) ((fv_L_clerks ((fv_L_stations M).2)).2)).2)).2)).1) ((fv_X5_count (0 : Int32) ((fv_X5_restore ((fv_L_mark ((fv_L_fails ((fv_L_lacks (pl_ce L xs (60 : Int32)) ((fv_L_clerks ((fv_L_stations M).2)).2)).2)).2)).2)).2)).1) ((fv_X5_count (0 : Int32) ((fv_X5_restore ((fv_L_mark ((fv_L_fails ((fv_L_lacks (pl_ce L xs (60 : Int32)) ((fv_L_clerks ((fv_L_stations M).2)).2)).2)).2)).2)).2)).2)))) ∧ (¬ ((fv_X5_restore ((fv_L_mark ((fv_L_fails ((fv_L_lacks (pl_ce L xs (60 : Int32)) ((fv_L_clerks ((fv_L_stations M).2)).2)).2)).2)).2)).1 = 0) → True)))))))))))))))))) ∧ (¬ ((26 : Int32) ≤ x5) → ((¬ ((8 : Int32) + x5) < 0) ∧ ((¬ ((34 : Int32) + x5) < 0) ∧ (((((pl_ce L xs ((34 : Int32) + x5)) >>> ((20 : Int32) &&& 31)) &&& (3 : Int32)) = 0 → ((ok_L_passes (pl_ce L xs ((8 : Int32) + x5)) M) ∧ (((fv_L_passes (pl_ce L xs ((8 : Int32) + x5)) M).1 = 0 → True) ∧ (¬ ((fv_L_passes (pl_ce L xs ((8 : Int32) + x5)) M).1 = 0) → (ok_L_law_194 L xs n x4 (x5 + (1 : Int32)) ((fv_L_passes (pl_ce L xs ((8 : Int32) + x5)) M).2)))))) ∧ (¬ ((((pl_ce L xs ((34 : Int32) + x5)) >>> ((20 : Int32) &&& 31)) &&& (3 : Int32)) = 0) → ((ok_X5_count (14 : Int32) M) ∧ ((ok_L_mark ((fv_X5_count (14 : Int32) M).2)) ∧ ((ok_L_act (pl_ce L xs ((8 : Int32) + x5)) (pl_ce L xs ((34 : Int32) + x5)) ((fv_L_mark ((fv_X5_count (14 : Int32) M).2)).2)) ∧ ((0 ≤ (fv_L_act (pl_ce L xs ((8 : Int32) + x5)) (pl_ce L xs ((34 : Int32) + x5)) ((fv_L_mark ((fv_X5_count (14 : Int32) M).2)).2)).1 → ((ok_X5_count (14 : Int32) ((fv_L_act (pl_ce L xs ((8 : Int32) + x5)) (pl_ce L xs ((34 : Int32) + x5)) ((fv_L_mark ((fv_X5_count (14 : Int32) M).2)).2)).2)) ∧ (ok_L_law_304 L xs (fun a4 a5 M => fv_L_law_194 L xs n a4 a5 M) (fun a4 a5 M => ok_L_law_194 L xs n a4 a5 M) x4 x5 ((fv_X5_count (14 : Int32) M).1) ((fv_X5_count (14 : Int32) ((fv_L_act (pl_ce L xs ((8 : Int32) + x5)) (pl_ce L xs ((34 : Int32) + x5)) ((fv_L_mark ((fv_X5_count (14 : Int32) M).2)).2)).2)).1) ((fv_X5_count (14 : Int32) ((fv_L_act (pl_ce L xs ((8 : Int32) + x5)) (pl_ce L xs ((34 : Int32) + x5)) ((fv_L_mark ((fv_X5_count (14 : Int32) M).2)).2)).2)).2)))) ∧ (¬ (0 ≤ (fv_L_act (pl_ce L xs ((8 : Int32) + x5)) (pl_ce L xs ((34 : Int32) + x5)) ((fv_L_mark ((fv_X5_count (14 : Int32) M).2)).2)).1) → ((ok_L_mark ((fv_L_act (pl_ce L xs ((8 : Int32) + x5)) (pl_ce L xs ((34 : Int32) + x5)) ((fv_L_mark ((fv_X5_count (14 : Int32) M).2)).2)).2)) ∧ (ok_L_law_278 L xs (fun a4 a5 M => fv_L_law_194 L xs n a4 a5 M) (fun a4 a5 M => ok_L_law_194 L xs n a4 a5 M) x4 x5 ((fv_X5_count (14 : Int32) M).1) ((fv_L_mark ((fv_X5_count (14 : Int32) M).2)).1) ((fv_L_mark ((fv_L_act (pl_ce L xs ((8 : Int32) + x5)) (pl_ce L xs ((34 : Int32) + x5)) ((fv_L_mark ((fv_X5_count (14 : Int32) M).2)).2)).2)).1) ((fv_L_mark ((fv_L_act (pl_ce L xs ((8 : Int32) + x5)) (pl_ce L xs ((34 : Int32) + x5)) ((fv_L_mark ((fv_X5_count (14 : Int32) M).2)).2)).2)).2)))))))))))))
theorem ok_L_law_194_s (L : Nat) (xs : Nat → Int32) (n : Nat) (x4 : Int32) (x5 : Int32) (M : ps_M) : ok_L_law_194 L xs (n + 1) x4 x5 M = (((26 : Int32) ≤ x5 → ((ok_L_stations M) ∧ (((fv_L_stations M).1 = 0 → True) ∧ (¬ ((fv_L_stations M).1 = 0) → ((ok_L_clerks ((fv_L_stations M).2)) ∧ (((fv_L_clerks ((fv_L_stations M).2)).1 = 0 → True) ∧ (¬ ((fv_L_clerks ((fv_L_stations M).2)).1 = 0) → ((¬ (60 : Int32) < 0) ∧ ((ok_L_lacks (pl_ce L xs (60 : Int32)) ((fv_L_clerks ((fv_L_stations M).2)).2)) ∧ (((fv_L_lacks (pl_ce L xs (60 : Int32)) ((fv_L_clerks ((fv_L_stations M).2)).2)).1 = 0 → True) ∧ (¬ ((fv_L_lacks (pl_ce L xs (60 : Int32)) ((fv_L_clerks ((fv_L_stations M).2)).2)).1 = 0) → ((ok_L_fails ((fv_L_lacks (pl_ce L xs (60 : Int32)) ((fv_L_clerks ((fv_L_stations M).2)).2)).2)) ∧ (((fv_L_fails ((fv_L_lacks (pl_ce L xs (60 : Int32)) ((fv_L_clerks ((fv_L_stations M).2)).2)).2)).1 = 0 → True) ∧ (¬ ((fv_L_fails ((fv_L_lacks (pl_ce L xs (60 : Int32)) ((fv_L_clerks ((fv_L_stations M).2)).2)).2)).1 = 0) → ((ok_L_mark ((fv_L_fails ((fv_L_lacks (pl_ce L xs (60 : Int32)) ((fv_L_clerks ((fv_L_stations M).2)).2)).2)).2)) ∧ ((ok_X5_restore ((fv_L_mark ((fv_L_fails ((fv_L_lacks (pl_ce L xs (60 : Int32)) ((fv_L_clerks ((fv_L_stations M).2)).2)).2)).2)).2)) ∧ (((fv_X5_restore ((fv_L_mark ((fv_L_fails ((fv_L_lacks (pl_ce L xs (60 : Int32)) ((fv_L_clerks ((fv_L_stations M).2)).2)).2)).2)).2)).1 = 0 → ((ok_X5_count (0 : Int32) ((fv_X5_restore ((fv_L_mark ((fv_L_fails ((fv_L_lacks (pl_ce L xs (60 : Int32)) ((fv_L_clerks ((fv_L_stations M).2)).2)).2)).2)).2)).2)) ∧ (ok_L_law_384 L xs x4 ((fv_L_mark ((fv_L_fails ((fv_L_lacks (pl_ce L xs (60 : Int32)) ((fv_L_clerks ((fv_L_stations M).2)).2)).2)).2)).1) ((fv_X5_count (0 : Int32) ((fv_X5_restore ((fv_L_mark ((fv_L_fails ((fv_L_lacks (pl_ce L xs (60 : Int32)) ((fv_L_clerks ((fv_L_stations M).2)).2)).2)).2)).2)).2)).1) ((fv_X5_count (0 : Int32) ((fv_X5_restore ((fv_L_mark ((fv_L_fails ((fv_L_lacks (pl_ce L xs (60 : Int32)) ((fv_L_clerks ((fv_L_stations M).2)).2)).2)).2)).2)).2)).2)))) ∧ (¬ ((fv_X5_restore ((fv_L_mark ((fv_L_fails ((fv_L_lacks (pl_ce L xs (60 : Int32)) ((fv_L_clerks ((fv_L_stations M).2)).2)).2)).2)).2)).1 = 0) → True)))))))))))))))))) ∧ (¬ ((26 : Int32) ≤ x5) → ((¬ ((8 : Int32) + x5) < 0) ∧ ((¬ ((34 : Int32) + x5) < 0) ∧ (((((pl_ce L xs ((34 : Int32) + x5)) >>> ((20 : Int32) &&& 31)) &&& (3 : Int32)) = 0 → ((ok_L_passes (pl_ce L xs ((8 : Int32) + x5)) M) ∧ (((fv_L_passes (pl_ce L xs ((8 : Int32) + x5)) M).1 = 0 → True) ∧ (¬ ((fv_L_passes (pl_ce L xs ((8 : Int32) + x5)) M).1 = 0) → (ok_L_law_194 L xs n x4 (x5 + (1 : Int32)) ((fv_L_passes (pl_ce L xs ((8 : Int32) + x5)) M).2)))))) ∧ (¬ ((((pl_ce L xs ((34 : Int32) + x5)) >>> ((20 : Int32) &&& 31)) &&& (3 : Int32)) = 0) → ((ok_X5_count (14 : Int32) M) ∧ ((ok_L_mark ((fv_X5_count (14 : Int32) M).2)) ∧ ((ok_L_act (pl_ce L xs ((8 : Int32) + x5)) (pl_ce L xs ((34 : Int32) + x5)) ((fv_L_mark ((fv_X5_count (14 : Int32) M).2)).2)) ∧ ((0 ≤ (fv_L_act (pl_ce L xs ((8 : Int32) + x5)) (pl_ce L xs ((34 : Int32) + x5)) ((fv_L_mark ((fv_X5_count (14 : Int32) M).2)).2)).1 → ((ok_X5_count (14 : Int32) ((fv_L_act (pl_ce L xs ((8 : Int32) + x5)) (pl_ce L xs ((34 : Int32) + x5)) ((fv_L_mark ((fv_X5_count (14 : Int32) M).2)).2)).2)) ∧ (ok_L_law_304 L xs (fun a4 a5 M => fv_L_law_194 L xs n a4 a5 M) (fun a4 a5 M => ok_L_law_194 L xs n a4 a5 M) x4 x5 ((fv_X5_count (14 : Int32) M).1) ((fv_X5_count (14 : Int32) ((fv_L_act (pl_ce L xs ((8 : Int32) + x5)) (pl_ce L xs ((34 : Int32) + x5)) ((fv_L_mark ((fv_X5_count (14 : Int32) M).2)).2)).2)).1) ((fv_X5_count (14 : Int32) ((fv_L_act (pl_ce L xs ((8 : Int32) + x5)) (pl_ce L xs ((34 : Int32) + x5)) ((fv_L_mark ((fv_X5_count (14 : Int32) M).2)).2)).2)).2)))) ∧ (¬ (0 ≤ (fv_L_act (pl_ce L xs ((8 : Int32) + x5)) (pl_ce L xs ((34 : Int32) + x5)) ((fv_L_mark ((fv_X5_count (14 : Int32) M).2)).2)).1) → ((ok_L_mark ((fv_L_act (pl_ce L xs ((8 : Int32) + x5)) (pl_ce L xs ((34 : Int32) + x5)) ((fv_L_mark ((fv_X5_count (14 : Int32) M).2)).2)).2)) ∧ (ok_L_law_278 L xs (fun a4 a5 M => fv_L_law_194 L xs n a4 a5 M) (fun a4 a5 M => ok_L_law_194 L xs n a4 a5 M) x4 x5 ((fv_X5_count (14 : Int32) M).1) ((fv_L_mark ((fv_X5_count (14 : Int32) M).2)).1) ((fv_L_mark ((fv_L_act (pl_ce L xs ((8 : Int32) + x5)) (pl_ce L xs ((34 : Int32) + x5)) ((fv_L_mark ((fv_X5_count (14 : Int32) M).2)).2)).2)).1) ((fv_L_mark ((fv_L_act (pl_ce L xs ((8 : Int32) + x5)) (pl_ce L xs ((34 : Int32) + x5)) ((fv_L_mark ((fv_X5_count (14 : Int32) M).2)).2)).2)).2)))))))))))))) := rfl
set_option maxRecDepth 100000 in
set_option maxHeartbeats 4000000 in
theorem bw_L_law_194 {E : ps_E} {X : ps_X (Int32 × ps_M)} (C : ps_C (ps_Yc E) X cL_law RL (some .boolean) 7 158 12) (RT : ps_RI (ps_Yc E) X cL_law .boolean) {b L : Nat} {xs : Nat → Int32} (hX : pl_scr (ps_Yc E) X b L xs) (hL : L ≤ 260) : ∀ (n : Nat) (x4 : Int32) (x5 : Int32) (M : ps_M), ok_L_law_194 L xs n x4 x5 M → ps_G (ps_Yc E) X (fv_L_law_194 L xs n x4 x5 M) 194 [(0, .ref b), (1, .ref (ps_ad E 0)), (2, .ref (ps_ad E 197)), (4, .int x4), (5, .int x5)] [] M := by
  intro n
  induction n with
  | zero => intro x4 x5 M h; exact h.elim
  | succ n ih =>
    intro x4 x5 M hk
    rw [fv_L_law_194_s]
    rw [ok_L_law_194_s] at hk
    refine gw_iload C 196 dL_law_194 4 rfl rfl ?_
    refine gw_bipush C 198 dL_law_196 (v := 26) (by decide) rfl ?_
    refine gw_ic_ge C 329 201 dL_law_198 (by decide) rfl (fun c198 => ?_) (fun c198 => ?_)
    · refine gw_aload_n C 330 dL_law_329 1 rfl rfl ?_
      refine gw_aload_n C 331 dL_law_330 2 rfl rfl ?_
      refine gw_cSi C 334 dL_law_331 rfl yv_L_stations lk_L_122 [.ref (ps_ad E 0), .ref (ps_ad E 197)] [] rfl (ct_L_stations (E := E) (l := ps_l X) M (hk.1 c198).1) rfl (Nat.le_of_ble_eq_true rfl) (Nat.le_of_ble_eq_true rfl) (Nat.le_of_ble_eq_true rfl) ?_
      refine gw_if_eq C 364 337 dL_law_334 (by decide) rfl (fun c334 => ?_) (fun c334 => ?_)
      · refine gw_iconst C 365 dL_law_364 (v := 0) (by decide) rfl ?_
        exact RT _ _ _ _ dL_law_365 ps_nb0
      · refine gw_aload_n C 338 dL_law_337 1 rfl rfl ?_
        refine gw_cSi C 341 dL_law_338 rfl yv_L_clerks lk_L_126 [.ref (ps_ad E 0)] [] rfl (ct_L_clerks (E := E) (l := ps_l X) ((fv_L_stations M).2) ((hk.1 c198).2.2 c334).1) rfl (Nat.le_of_ble_eq_true rfl) (Nat.le_of_ble_eq_true rfl) (Nat.le_of_ble_eq_true rfl) ?_
        refine gw_if_eq C 364 344 dL_law_341 (by decide) rfl (fun c341 => ?_) (fun c341 => ?_)
        · refine gw_iconst C 365 dL_law_364 (v := 0) (by decide) rfl ?_
          exact RT _ _ _ _ dL_law_365 ps_nb0
        · refine gw_aload_n C 345 dL_law_344 1 rfl rfl ?_
          refine gw_aload_n C 346 dL_law_345 0 rfl rfl ?_
          refine gw_bipush C 348 dL_law_346 (v := 60) (by decide) rfl ?_
          refine gl_cell C 351 dL_law_348 rfl lk_L_104 hX hL (((hk.1 c198).2.2 c334).2.2 c341).1 [.ref (ps_ad E 0)] rfl (Nat.le_of_ble_eq_true rfl) (Nat.le_of_ble_eq_true rfl) (Nat.le_of_ble_eq_true rfl) ?_
          refine gw_cSi C 354 dL_law_351 rfl yv_L_lacks lk_L_129 [.ref (ps_ad E 0), .int (pl_ce L xs (60 : Int32))] [] rfl (ct_L_lacks (E := E) (l := ps_l X) (pl_ce L xs (60 : Int32)) ((fv_L_clerks ((fv_L_stations M).2)).2) (((hk.1 c198).2.2 c334).2.2 c341).2.1) rfl (Nat.le_of_ble_eq_true rfl) (Nat.le_of_ble_eq_true rfl) (Nat.le_of_ble_eq_true rfl) ?_
          refine gw_if_eq C 364 357 dL_law_354 (by decide) rfl (fun c354 => ?_) (fun c354 => ?_)
          · refine gw_iconst C 365 dL_law_364 (v := 0) (by decide) rfl ?_
            exact RT _ _ _ _ dL_law_365 ps_nb0
          · refine gw_aload_n C 358 dL_law_357 1 rfl rfl ?_
            refine gw_cSi C 361 dL_law_358 rfl yv_L_fails lk_L_100 [.ref (ps_ad E 0)] [] rfl (ct_L_fails (E := E) (l := ps_l X) ((fv_L_lacks (pl_ce L xs (60 : Int32)) ((fv_L_clerks ((fv_L_stations M).2)).2)).2) ((((hk.1 c198).2.2 c334).2.2 c341).2.2.2 c354).1) rfl (Nat.le_of_ble_eq_true rfl) (Nat.le_of_ble_eq_true rfl) (Nat.le_of_ble_eq_true rfl) ?_
            refine gw_if_ne C 366 364 dL_law_361 (by decide) rfl (fun c361 => ?_) (fun c361 => ?_)
            · refine gw_iconst C 365 dL_law_364 (v := 0) (by decide) rfl ?_
              exact RT _ _ _ _ dL_law_365 ps_nb0
            · refine gw_aload_n C 367 dL_law_366 1 rfl rfl ?_
              refine gw_cSl C 370 dL_law_367 rfl yv_L_mark lk_L_32 [.ref (ps_ad E 0)] [] rfl (ct_L_mark (E := E) (l := ps_l X) ((fv_L_fails ((fv_L_lacks (pl_ce L xs (60 : Int32)) ((fv_L_clerks ((fv_L_stations M).2)).2)).2)).2) (((((hk.1 c198).2.2 c334).2.2 c341).2.2.2 c354).2.2 c361).1) rfl (Nat.le_of_ble_eq_true rfl) (Nat.le_of_ble_eq_true rfl) (Nat.le_of_ble_eq_true rfl) ?_
              refine gw_lstore C 372 dL_law_370 rfl [(0, .ref b), (1, .ref (ps_ad E 0)), (2, .ref (ps_ad E 197)), (4, .int x4), (5, .long ((fv_L_mark ((fv_L_fails ((fv_L_lacks (pl_ce L xs (60 : Int32)) ((fv_L_clerks ((fv_L_stations M).2)).2)).2)).2)).1))] [1, 2, 3, 4, 0] (by decide) rfl ?_
              refine gw_aload_n C 373 dL_law_372 1 rfl rfl ?_
              refine gw_cVi C 376 dL_law_373 rfl yv_X5_restore lk_L_97 [] [] rfl (ct_X5_restore (E := E) (l := ps_l X) ((fv_L_mark ((fv_L_fails ((fv_L_lacks (pl_ce L xs (60 : Int32)) ((fv_L_clerks ((fv_L_stations M).2)).2)).2)).2)).2) (((((hk.1 c198).2.2 c334).2.2 c341).2.2.2 c354).2.2 c361).2.1) rc_P rfl (Nat.le_of_ble_eq_true rfl) (Nat.le_of_ble_eq_true rfl) (Nat.le_of_ble_eq_true rfl) ?_
              refine gw_if_ne C 434 379 dL_law_376 (by decide) rfl (fun c376 => ?_) (fun c376 => ?_)
              · refine gw_aload_n C 380 dL_law_379 1 rfl rfl ?_
                refine gw_iconst C 381 dL_law_380 (v := 0) (by decide) rfl ?_
                refine gw_cVi C 384 dL_law_381 rfl yv_X5_count lk_L_13 [.int (0 : Int32)] [] rfl (ct_X5_count (E := E) (l := ps_l X) (0 : Int32) ((fv_X5_restore ((fv_L_mark ((fv_L_fails ((fv_L_lacks (pl_ce L xs (60 : Int32)) ((fv_L_clerks ((fv_L_stations M).2)).2)).2)).2)).2)).2) ((((((hk.1 c198).2.2 c334).2.2 c341).2.2.2 c354).2.2 c361).2.2.1 c376).1) rc_P rfl (Nat.le_of_ble_eq_true rfl) (Nat.le_of_ble_eq_true rfl) (Nat.le_of_ble_eq_true rfl) ?_
                refine gw_sub C [(1, .ref (ps_ad E 0)), (4, .int x4), (5, .long ((fv_L_mark ((fv_L_fails ((fv_L_lacks (pl_ce L xs (60 : Int32)) ((fv_L_clerks ((fv_L_stations M).2)).2)).2)).2)).1))] [1, 3, 4] rfl ?_
                exact bw_L_law_384 C RT hX hL  x4 ((fv_L_mark ((fv_L_fails ((fv_L_lacks (pl_ce L xs (60 : Int32)) ((fv_L_clerks ((fv_L_stations M).2)).2)).2)).2)).1) ((fv_X5_count (0 : Int32) ((fv_X5_restore ((fv_L_mark ((fv_L_fails ((fv_L_lacks (pl_ce L xs (60 : Int32)) ((fv_L_clerks ((fv_L_stations M).2)).2)).2)).2)).2)).2)).1) ((fv_X5_count (0 : Int32) ((fv_X5_restore ((fv_L_mark ((fv_L_fails ((fv_L_lacks (pl_ce L xs (60 : Int32)) ((fv_L_clerks ((fv_L_stations M).2)).2)).2)).2)).2)).2)).2) ((((((hk.1 c198).2.2 c334).2.2 c341).2.2.2 c354).2.2 c361).2.2.1 c376).2
              · refine gw_iconst C 435 dL_law_434 (v := 0) (by decide) rfl ?_
                exact RT _ _ _ _ dL_law_435 ps_nb0
    · refine gw_aload_n C 202 dL_law_201 0 rfl rfl ?_
      refine gw_bipush C 204 dL_law_202 (v := 8) (by decide) rfl ?_
      refine gw_iload C 206 dL_law_204 4 rfl rfl ?_
      refine gw_iadd C 207 dL_law_206 rfl ?_
      refine gl_cell C 210 dL_law_207 rfl lk_L_104 hX hL (hk.2 c198).1 [] rfl (Nat.le_of_ble_eq_true rfl) (Nat.le_of_ble_eq_true rfl) (Nat.le_of_ble_eq_true rfl) ?_
      refine gw_istore C 212 dL_law_210 rfl [(0, .ref b), (1, .ref (ps_ad E 0)), (2, .ref (ps_ad E 197)), (4, .int x4), (5, .int x5), (6, .int (pl_ce L xs ((8 : Int32) + x5)))] [1, 2, 3, 4, 5, 0] (by decide) rfl ?_
      refine gw_aload_n C 213 dL_law_212 0 rfl rfl ?_
      refine gw_bipush C 215 dL_law_213 (v := 34) (by decide) rfl ?_
      refine gw_iload C 217 dL_law_215 4 rfl rfl ?_
      refine gw_iadd C 218 dL_law_217 rfl ?_
      refine gl_cell C 221 dL_law_218 rfl lk_L_104 hX hL (hk.2 c198).2.1 [] rfl (Nat.le_of_ble_eq_true rfl) (Nat.le_of_ble_eq_true rfl) (Nat.le_of_ble_eq_true rfl) ?_
      refine gw_istore C 223 dL_law_221 rfl [(0, .ref b), (1, .ref (ps_ad E 0)), (2, .ref (ps_ad E 197)), (4, .int x4), (5, .int x5), (6, .int (pl_ce L xs ((8 : Int32) + x5))), (7, .int (pl_ce L xs ((34 : Int32) + x5)))] [1, 2, 3, 4, 5, 6, 0] (by decide) rfl ?_
      refine gw_iload C 225 dL_law_223 6 rfl rfl ?_
      refine gw_bipush C 227 dL_law_225 (v := 20) (by decide) rfl ?_
      refine gw_ishr C 228 dL_law_227 rfl ?_
      refine gw_iconst C 229 dL_law_228 (v := 3) (by decide) rfl ?_
      refine gw_iand C 230 dL_law_229 rfl ?_
      refine gw_if_ne C 244 233 dL_law_230 (by decide) rfl (fun c230 => ?_) (fun c230 => ?_)
      · refine gw_aload_n C 234 dL_law_233 1 rfl rfl ?_
        refine gw_iload C 236 dL_law_234 5 rfl rfl ?_
        refine gw_cSi C 239 dL_law_236 rfl yv_L_passes lk_L_114 [.ref (ps_ad E 0), .int (pl_ce L xs ((8 : Int32) + x5))] [] rfl (ct_L_passes (E := E) (l := ps_l X) (pl_ce L xs ((8 : Int32) + x5)) M ((hk.2 c198).2.2.1 c230).1) rfl (Nat.le_of_ble_eq_true rfl) (Nat.le_of_ble_eq_true rfl) (Nat.le_of_ble_eq_true rfl) ?_
        refine gw_if_ne C 323 242 dL_law_239 (by decide) rfl (fun c239 => ?_) (fun c239 => ?_)
        · refine gw_iconst C 243 dL_law_242 (v := 0) (by decide) rfl ?_
          exact RT _ _ _ _ dL_law_243 ps_nb0
        · refine gw_iinc C 326 dL_law_323 rfl (y := 1) (by decide) rfl 4 rfl [(0, .ref b), (1, .ref (ps_ad E 0)), (2, .ref (ps_ad E 197)), (4, .int x4), (5, .int (x5 + (1 : Int32))), (6, .int (pl_ce L xs ((8 : Int32) + x5))), (7, .int (pl_ce L xs ((34 : Int32) + x5)))] [1, 2, 3, 4, 0, 5, 6] (by decide) rfl ?_
          refine gw_goto C 194 dL_law_326 (by decide) ?_
          refine gw_sub C [(0, .ref b), (1, .ref (ps_ad E 0)), (2, .ref (ps_ad E 197)), (4, .int x4), (5, .int (x5 + (1 : Int32)))] [0, 1, 2, 3, 4] rfl ?_
          exact ih x4 (x5 + (1 : Int32)) ((fv_L_passes (pl_ce L xs ((8 : Int32) + x5)) M).2) (((hk.2 c198).2.2.1 c230).2.2 c239)
      · refine gw_aload_n C 245 dL_law_244 1 rfl rfl ?_
        refine gw_bipush C 247 dL_law_245 (v := 14) (by decide) rfl ?_
        refine gw_cVi C 250 dL_law_247 rfl yv_X5_count lk_L_13 [.int (14 : Int32)] [] rfl (ct_X5_count (E := E) (l := ps_l X) (14 : Int32) M ((hk.2 c198).2.2.2 c230).1) rc_P rfl (Nat.le_of_ble_eq_true rfl) (Nat.le_of_ble_eq_true rfl) (Nat.le_of_ble_eq_true rfl) ?_
        refine gw_istore C 252 dL_law_250 rfl [(0, .ref b), (1, .ref (ps_ad E 0)), (2, .ref (ps_ad E 197)), (4, .int x4), (5, .int x5), (6, .int (pl_ce L xs ((8 : Int32) + x5))), (7, .int (pl_ce L xs ((34 : Int32) + x5))), (8, .int ((fv_X5_count (14 : Int32) M).1))] [1, 2, 3, 4, 5, 6, 7, 0] (by decide) rfl ?_
        refine gw_aload_n C 253 dL_law_252 1 rfl rfl ?_
        refine gw_cSl C 256 dL_law_253 rfl yv_L_mark lk_L_32 [.ref (ps_ad E 0)] [] rfl (ct_L_mark (E := E) (l := ps_l X) ((fv_X5_count (14 : Int32) M).2) ((hk.2 c198).2.2.2 c230).2.1) rfl (Nat.le_of_ble_eq_true rfl) (Nat.le_of_ble_eq_true rfl) (Nat.le_of_ble_eq_true rfl) ?_
        refine gw_lstore C 258 dL_law_256 rfl [(0, .ref b), (1, .ref (ps_ad E 0)), (2, .ref (ps_ad E 197)), (4, .int x4), (5, .int x5), (6, .int (pl_ce L xs ((8 : Int32) + x5))), (7, .int (pl_ce L xs ((34 : Int32) + x5))), (8, .int ((fv_X5_count (14 : Int32) M).1)), (9, .long ((fv_L_mark ((fv_X5_count (14 : Int32) M).2)).1))] [1, 2, 3, 4, 5, 6, 7, 8, 0] (by decide) rfl ?_
        refine gw_aload_n C 259 dL_law_258 1 rfl rfl ?_
        refine gw_iload C 261 dL_law_259 5 rfl rfl ?_
        refine gw_iload C 263 dL_law_261 6 rfl rfl ?_
        refine gw_aload_n C 264 dL_law_263 2 rfl rfl ?_
        refine gw_cSi C 267 dL_law_264 rfl yv_L_act lk_L_118 [.ref (ps_ad E 0), .int (pl_ce L xs ((8 : Int32) + x5)), .int (pl_ce L xs ((34 : Int32) + x5)), .ref (ps_ad E 197)] [] rfl (ct_L_act (E := E) (l := ps_l X) (pl_ce L xs ((8 : Int32) + x5)) (pl_ce L xs ((34 : Int32) + x5)) ((fv_L_mark ((fv_X5_count (14 : Int32) M).2)).2) ((hk.2 c198).2.2.2 c230).2.2.1) rfl (Nat.le_of_ble_eq_true rfl) (Nat.le_of_ble_eq_true rfl) (Nat.le_of_ble_eq_true rfl) ?_
        refine gw_istore C 269 dL_law_267 rfl [(0, .ref b), (1, .ref (ps_ad E 0)), (2, .ref (ps_ad E 197)), (4, .int x4), (5, .int x5), (6, .int (pl_ce L xs ((8 : Int32) + x5))), (7, .int (pl_ce L xs ((34 : Int32) + x5))), (8, .int ((fv_X5_count (14 : Int32) M).1)), (9, .long ((fv_L_mark ((fv_X5_count (14 : Int32) M).2)).1)), (11, .int ((fv_L_act (pl_ce L xs ((8 : Int32) + x5)) (pl_ce L xs ((34 : Int32) + x5)) ((fv_L_mark ((fv_X5_count (14 : Int32) M).2)).2)).1))] [1, 2, 3, 4, 5, 6, 7, 8, 9, 0] (by decide) rfl ?_
        refine gw_iload C 271 dL_law_269 9 rfl rfl ?_
        refine gw_if_ge C 298 274 dL_law_271 (by decide) rfl (fun c271 => ?_) (fun c271 => ?_)
        · refine gw_aload_n C 299 dL_law_298 1 rfl rfl ?_
          refine gw_bipush C 301 dL_law_299 (v := 14) (by decide) rfl ?_
          refine gw_cVi C 304 dL_law_301 rfl yv_X5_count lk_L_13 [.int (14 : Int32)] [] rfl (ct_X5_count (E := E) (l := ps_l X) (14 : Int32) ((fv_L_act (pl_ce L xs ((8 : Int32) + x5)) (pl_ce L xs ((34 : Int32) + x5)) ((fv_L_mark ((fv_X5_count (14 : Int32) M).2)).2)).2) (((hk.2 c198).2.2.2 c230).2.2.2.1 c271).1) rc_P rfl (Nat.le_of_ble_eq_true rfl) (Nat.le_of_ble_eq_true rfl) (Nat.le_of_ble_eq_true rfl) ?_
          refine gw_sub C [(0, .ref b), (1, .ref (ps_ad E 0)), (2, .ref (ps_ad E 197)), (4, .int x4), (5, .int x5), (8, .int ((fv_X5_count (14 : Int32) M).1))] [0, 1, 2, 3, 4, 7] rfl ?_
          exact bw_L_law_304 C RT hX hL _ _ (fun a4 a5  M h => ih a4 a5  M h) x4 x5 ((fv_X5_count (14 : Int32) M).1) ((fv_X5_count (14 : Int32) ((fv_L_act (pl_ce L xs ((8 : Int32) + x5)) (pl_ce L xs ((34 : Int32) + x5)) ((fv_L_mark ((fv_X5_count (14 : Int32) M).2)).2)).2)).1) ((fv_X5_count (14 : Int32) ((fv_L_act (pl_ce L xs ((8 : Int32) + x5)) (pl_ce L xs ((34 : Int32) + x5)) ((fv_L_mark ((fv_X5_count (14 : Int32) M).2)).2)).2)).2) (((hk.2 c198).2.2.2 c230).2.2.2.1 c271).2
        · refine gw_aload_n C 275 dL_law_274 1 rfl rfl ?_
          refine gw_cSl C 278 dL_law_275 rfl yv_L_mark lk_L_32 [.ref (ps_ad E 0)] [] rfl (ct_L_mark (E := E) (l := ps_l X) ((fv_L_act (pl_ce L xs ((8 : Int32) + x5)) (pl_ce L xs ((34 : Int32) + x5)) ((fv_L_mark ((fv_X5_count (14 : Int32) M).2)).2)).2) (((hk.2 c198).2.2.2 c230).2.2.2.2 c271).1) rfl (Nat.le_of_ble_eq_true rfl) (Nat.le_of_ble_eq_true rfl) (Nat.le_of_ble_eq_true rfl) ?_
          refine gw_sub C [(0, .ref b), (1, .ref (ps_ad E 0)), (2, .ref (ps_ad E 197)), (4, .int x4), (5, .int x5), (8, .int ((fv_X5_count (14 : Int32) M).1)), (9, .long ((fv_L_mark ((fv_X5_count (14 : Int32) M).2)).1))] [0, 1, 2, 3, 4, 7, 8] rfl ?_
          exact bw_L_law_278 C RT hX hL _ _ (fun a4 a5  M h => ih a4 a5  M h) x4 x5 ((fv_X5_count (14 : Int32) M).1) ((fv_L_mark ((fv_X5_count (14 : Int32) M).2)).1) ((fv_L_mark ((fv_L_act (pl_ce L xs ((8 : Int32) + x5)) (pl_ce L xs ((34 : Int32) + x5)) ((fv_L_mark ((fv_X5_count (14 : Int32) M).2)).2)).2)).1) ((fv_L_mark ((fv_L_act (pl_ce L xs ((8 : Int32) + x5)) (pl_ce L xs ((34 : Int32) + x5)) ((fv_L_mark ((fv_X5_count (14 : Int32) M).2)).2)).2)).2) (((hk.2 c198).2.2.2 c230).2.2.2.2 c271).2
def fv_L_law_169 (L : Nat) (xs : Nat → Int32) (rec127 : Int32 → Int32 → ps_M → Int32 × ps_M) (x4 : Int32) (x5 : Int32) (s0 : Int32) (M : ps_M) : Int32 × ps_M := if s0 = x5 then (rec127 x4 (x5 + (1 : Int32)) M) else (((0 : Int32), M))
def ok_L_law_169 (L : Nat) (xs : Nat → Int32) (rec127 : Int32 → Int32 → ps_M → Int32 × ps_M) (okr127 : Int32 → Int32 → ps_M → Prop) (x4 : Int32) (x5 : Int32) (s0 : Int32) (M : ps_M) : Prop := (s0 = x5 → (okr127 x4 (x5 + (1 : Int32)) M)) ∧ (¬ (s0 = x5) → True)
set_option maxRecDepth 100000 in
set_option maxHeartbeats 4000000 in
theorem bw_L_law_169 {E : ps_E} {X : ps_X (Int32 × ps_M)} (C : ps_C (ps_Yc E) X cL_law RL (some .boolean) 7 158 12) (RT : ps_RI (ps_Yc E) X cL_law .boolean) {b L : Nat} {xs : Nat → Int32} (hX : pl_scr (ps_Yc E) X b L xs) (hL : L ≤ 260) (rec127 : Int32 → Int32 → ps_M → Int32 × ps_M) (okr127 : Int32 → Int32 → ps_M → Prop) (hr127 : ∀ (x4 : Int32) (x5 : Int32)  (M : ps_M), okr127 x4 x5 M → ps_G (ps_Yc E) X (rec127 x4 x5 M) 127 [(0, .ref b), (1, .ref (ps_ad E 0)), (2, .ref (ps_ad E 197)), (4, .int x4), (5, .int x5)] [] M) (x4 : Int32) (x5 : Int32) (s0 : Int32) (M : ps_M) (hk : ok_L_law_169 L xs rec127 okr127 x4 x5 s0 M) : ps_G (ps_Yc E) X (fv_L_law_169 L xs rec127 x4 x5 s0 M) 169 [(0, .ref b), (1, .ref (ps_ad E 0)), (2, .ref (ps_ad E 197)), (4, .int x4), (5, .int x5)] [.int s0] M := by
  unfold fv_L_law_169
  unfold ok_L_law_169 at hk
  refine gw_iload C 171 dL_law_169 4 rfl rfl ?_
  refine gw_ic_eq C 176 174 dL_law_171 (by decide) rfl (fun c171 => ?_) (fun c171 => ?_)
  · refine gw_iinc C 179 dL_law_176 rfl (y := 1) (by decide) rfl 4 rfl [(0, .ref b), (1, .ref (ps_ad E 0)), (2, .ref (ps_ad E 197)), (4, .int x4), (5, .int (x5 + (1 : Int32)))] [1, 2, 3, 4, 0] (by decide) rfl ?_
    refine gw_goto C 127 dL_law_179 (by decide) ?_
    exact hr127 x4 (x5 + (1 : Int32)) M (hk.1 c171)
  · refine gw_iconst C 175 dL_law_174 (v := 0) (by decide) rfl ?_
    exact RT _ _ _ _ dL_law_175 ps_nb0
def fv_L_law_127 (L : Nat) (xs : Nat → Int32) : Nat → Int32 → Int32 → ps_M → Int32 × ps_M
  | 0, _, _, M => (0, M)
  | n + 1, x4, x5, M => if x4 ≤ x5 then (if (fv_X5_keep M).1 = 0 then (fv_L_law_194 L xs ps_FU x4 (0 : Int32) ((fv_X5_keep M).2)) else (((0 : Int32), (fv_X5_keep M).2))) else (fv_L_law_169 L xs (fun a4 a5 M => fv_L_law_127 L xs n a4 a5 M) x4 x5 ((fv_X5_addClerk ((1 : Int32) + (fv_L_up (pl_ce L xs ((1 : Int32) + x5)) (60 : Int32) M)) ((1 : Int32) + (fv_L_up ((pl_ce L xs ((1 : Int32) + x5)) >>> ((6 : Int32) &&& 31)) (6 : Int32) M)) M).1) ((fv_X5_addClerk ((1 : Int32) + (fv_L_up (pl_ce L xs ((1 : Int32) + x5)) (60 : Int32) M)) ((1 : Int32) + (fv_L_up ((pl_ce L xs ((1 : Int32) + x5)) >>> ((6 : Int32) &&& 31)) (6 : Int32) M)) M).2))
theorem fv_L_law_127_s (L : Nat) (xs : Nat → Int32) (n : Nat) (x4 : Int32) (x5 : Int32) (M : ps_M) : fv_L_law_127 L xs (n + 1) x4 x5 M = (if x4 ≤ x5 then (if (fv_X5_keep M).1 = 0 then (fv_L_law_194 L xs ps_FU x4 (0 : Int32) ((fv_X5_keep M).2)) else (((0 : Int32), (fv_X5_keep M).2))) else (fv_L_law_169 L xs (fun a4 a5 M => fv_L_law_127 L xs n a4 a5 M) x4 x5 ((fv_X5_addClerk ((1 : Int32) + (fv_L_up (pl_ce L xs ((1 : Int32) + x5)) (60 : Int32) M)) ((1 : Int32) + (fv_L_up ((pl_ce L xs ((1 : Int32) + x5)) >>> ((6 : Int32) &&& 31)) (6 : Int32) M)) M).1) ((fv_X5_addClerk ((1 : Int32) + (fv_L_up (pl_ce L xs ((1 : Int32) + x5)) (60 : Int32) M)) ((1 : Int32) + (fv_L_up ((pl_ce L xs ((1 : Int32) + x5)) >>> ((6 : Int32) &&& 31)) (6 : Int32) M)) M).2))) := rfl
def ok_L_law_127 (L : Nat) (xs : Nat → Int32) : Nat → Int32 → Int32 → ps_M → Prop
  | 0, _, _, _ => False
  | n + 1, x4, x5, M => (x4 ≤ x5 → ((ok_X5_keep M) ∧ (((fv_X5_keep M).1 = 0 → (ok_L_law_194 L xs ps_FU x4 (0 : Int32) ((fv_X5_keep M).2))) ∧ (¬ ((fv_X5_keep M).1 = 0) → True)))) ∧ (¬ (x4 ≤ x5) → ((¬ ((1 : Int32) + x5) < 0) ∧ ((ok_L_up (pl_ce L xs ((1 : Int32) + x5)) (60 : Int32) M) ∧ ((ok_L_up ((pl_ce L xs ((1 : Int32) + x5)) >>> ((6 : Int32) &&& 31)) (6 : Int32) M) ∧ ((ok_X5_addClerk ((1 : Int32) + (fv_L_up (pl_ce L xs ((1 : Int32) + x5)) (60 : Int32) M)) ((1 : Int32) + (fv_L_up ((pl_ce L xs ((1 : Int32) + x5)) >>> ((6 : Int32) &&& 31)) (6 : Int32) M)) M) ∧ (ok_L_law_169 L xs (fun a4 a5 M => fv_L_law_127 L xs n a4 a5 M) (fun a4 a5 M => ok_L_law_127 L xs n a4 a5 M) x4 x5 ((fv_X5_addClerk ((1 : Int32) + (fv_L_up (pl_ce L xs ((1 : Int32) + x5)) (60 : Int32) M)) ((1 : Int32) + (fv_L_up ((pl_ce L xs ((1 : Int32) + x5)) >>> ((6 : Int32) &&& 31)) (6 : Int32) M)) M).1) ((fv_X5_addClerk ((1 : Int32) + (fv_L_up (pl_ce L xs ((1 : Int32) + x5)) (60 : Int32) M)) ((1 : Int32) + (fv_L_up ((pl_ce L xs ((1 : Int32) + x5)) >>> ((6 : Int32) &&& 31)) (6 : Int32) M)) M).2)))))))
theorem ok_L_law_127_s (L : Nat) (xs : Nat → Int32) (n : Nat) (x4 : Int32) (x5 : Int32) (M : ps_M) : ok_L_law_127 L xs (n + 1) x4 x5 M = ((x4 ≤ x5 → ((ok_X5_keep M) ∧ (((fv_X5_keep M).1 = 0 → (ok_L_law_194 L xs ps_FU x4 (0 : Int32) ((fv_X5_keep M).2))) ∧ (¬ ((fv_X5_keep M).1 = 0) → True)))) ∧ (¬ (x4 ≤ x5) → ((¬ ((1 : Int32) + x5) < 0) ∧ ((ok_L_up (pl_ce L xs ((1 : Int32) + x5)) (60 : Int32) M) ∧ ((ok_L_up ((pl_ce L xs ((1 : Int32) + x5)) >>> ((6 : Int32) &&& 31)) (6 : Int32) M) ∧ ((ok_X5_addClerk ((1 : Int32) + (fv_L_up (pl_ce L xs ((1 : Int32) + x5)) (60 : Int32) M)) ((1 : Int32) + (fv_L_up ((pl_ce L xs ((1 : Int32) + x5)) >>> ((6 : Int32) &&& 31)) (6 : Int32) M)) M) ∧ (ok_L_law_169 L xs (fun a4 a5 M => fv_L_law_127 L xs n a4 a5 M) (fun a4 a5 M => ok_L_law_127 L xs n a4 a5 M) x4 x5 ((fv_X5_addClerk ((1 : Int32) + (fv_L_up (pl_ce L xs ((1 : Int32) + x5)) (60 : Int32) M)) ((1 : Int32) + (fv_L_up ((pl_ce L xs ((1 : Int32) + x5)) >>> ((6 : Int32) &&& 31)) (6 : Int32) M)) M).1) ((fv_X5_addClerk ((1 : Int32) + (fv_L_up (pl_ce L xs ((1 : Int32) + x5)) (60 : Int32) M)) ((1 : Int32) + (fv_L_up ((pl_ce L xs ((1 : Int32) + x5)) >>> ((6 : Int32) &&& 31)) (6 : Int32) M)) M).2)))))))) := rfl
set_option maxRecDepth 100000 in
set_option maxHeartbeats 4000000 in
theorem bw_L_law_127 {E : ps_E} {X : ps_X (Int32 × ps_M)} (C : ps_C (ps_Yc E) X cL_law RL (some .boolean) 7 158 12) (RT : ps_RI (ps_Yc E) X cL_law .boolean) {b L : Nat} {xs : Nat → Int32} (hX : pl_scr (ps_Yc E) X b L xs) (hL : L ≤ 260) : ∀ (n : Nat) (x4 : Int32) (x5 : Int32) (M : ps_M), ok_L_law_127 L xs n x4 x5 M → ps_G (ps_Yc E) X (fv_L_law_127 L xs n x4 x5 M) 127 [(0, .ref b), (1, .ref (ps_ad E 0)), (2, .ref (ps_ad E 197)), (4, .int x4), (5, .int x5)] [] M := by
  intro n
  induction n with
  | zero => intro x4 x5 M h; exact h.elim
  | succ n ih =>
    intro x4 x5 M hk
    rw [fv_L_law_127_s]
    rw [ok_L_law_127_s] at hk
    refine gw_iload C 129 dL_law_127 4 rfl rfl ?_
    refine gw_iload C 131 dL_law_129 3 rfl rfl ?_
    refine gw_ic_ge C 182 134 dL_law_131 (by decide) rfl (fun c131 => ?_) (fun c131 => ?_)
    · refine gw_aload_n C 183 dL_law_182 1 rfl rfl ?_
      refine gw_cVi C 186 dL_law_183 rfl yv_X5_keep lk_L_111 [] [] rfl (ct_X5_keep (E := E) (l := ps_l X) M (hk.1 c131).1) rc_P rfl (Nat.le_of_ble_eq_true rfl) (Nat.le_of_ble_eq_true rfl) (Nat.le_of_ble_eq_true rfl) ?_
      refine gw_if_eq C 191 189 dL_law_186 (by decide) rfl (fun c186 => ?_) (fun c186 => ?_)
      · refine gw_iconst C 192 dL_law_191 (v := 0) (by decide) rfl ?_
        refine gw_istore C 194 dL_law_192 rfl [(0, .ref b), (1, .ref (ps_ad E 0)), (2, .ref (ps_ad E 197)), (4, .int x4), (5, .int (0 : Int32))] [1, 2, 3, 4, 0] (by decide) rfl ?_
        exact bw_L_law_194 C RT hX hL  ps_FU x4 (0 : Int32) ((fv_X5_keep M).2) ((hk.1 c131).2.1 c186)
      · refine gw_iconst C 190 dL_law_189 (v := 0) (by decide) rfl ?_
        exact RT _ _ _ _ dL_law_190 ps_nb0
    · refine gw_aload_n C 135 dL_law_134 0 rfl rfl ?_
      refine gw_iconst C 136 dL_law_135 (v := 1) (by decide) rfl ?_
      refine gw_iload C 138 dL_law_136 4 rfl rfl ?_
      refine gw_iadd C 139 dL_law_138 rfl ?_
      refine gl_cell C 142 dL_law_139 rfl lk_L_104 hX hL (hk.2 c131).1 [] rfl (Nat.le_of_ble_eq_true rfl) (Nat.le_of_ble_eq_true rfl) (Nat.le_of_ble_eq_true rfl) ?_
      refine gw_istore C 144 dL_law_142 rfl [(0, .ref b), (1, .ref (ps_ad E 0)), (2, .ref (ps_ad E 197)), (4, .int x4), (5, .int x5), (6, .int (pl_ce L xs ((1 : Int32) + x5)))] [1, 2, 3, 4, 5, 0] (by decide) rfl ?_
      refine gw_aload_n C 145 dL_law_144 1 rfl rfl ?_
      refine gw_iconst C 146 dL_law_145 (v := 1) (by decide) rfl ?_
      refine gw_iload C 148 dL_law_146 5 rfl rfl ?_
      refine gw_bipush C 150 dL_law_148 (v := 60) (by decide) rfl ?_
      refine gw_cSp C 153 dL_law_150 rfl yv_L_up lk_L_89 [.int (pl_ce L xs ((1 : Int32) + x5)), .int (60 : Int32)] [.int (1 : Int32), .ref (ps_ad E 0)] rfl (ct_L_up (E := E) (l := ps_l X) (pl_ce L xs ((1 : Int32) + x5)) (60 : Int32) M (hk.2 c131).2.1) rfl (Nat.le_of_ble_eq_true rfl) (Nat.le_of_ble_eq_true rfl) (Nat.le_of_ble_eq_true rfl) ?_
      refine gw_iadd C 154 dL_law_153 rfl ?_
      refine gw_iconst C 155 dL_law_154 (v := 1) (by decide) rfl ?_
      refine gw_iload C 157 dL_law_155 5 rfl rfl ?_
      refine gw_bipush C 159 dL_law_157 (v := 6) (by decide) rfl ?_
      refine gw_ishr C 160 dL_law_159 rfl ?_
      refine gw_bipush C 162 dL_law_160 (v := 6) (by decide) rfl ?_
      refine gw_cSp C 165 dL_law_162 rfl yv_L_up lk_L_89 [.int ((pl_ce L xs ((1 : Int32) + x5)) >>> ((6 : Int32) &&& 31)), .int (6 : Int32)] [.int (1 : Int32), .int ((1 : Int32) + (fv_L_up (pl_ce L xs ((1 : Int32) + x5)) (60 : Int32) M)), .ref (ps_ad E 0)] rfl (ct_L_up (E := E) (l := ps_l X) ((pl_ce L xs ((1 : Int32) + x5)) >>> ((6 : Int32) &&& 31)) (6 : Int32) M (hk.2 c131).2.2.1) rfl (Nat.le_of_ble_eq_true rfl) (Nat.le_of_ble_eq_true rfl) (Nat.le_of_ble_eq_true rfl) ?_
      refine gw_iadd C 166 dL_law_165 rfl ?_
      refine gw_cVi C 169 dL_law_166 rfl yv_X5_addClerk lk_L_38 [.int ((1 : Int32) + (fv_L_up (pl_ce L xs ((1 : Int32) + x5)) (60 : Int32) M)), .int ((1 : Int32) + (fv_L_up ((pl_ce L xs ((1 : Int32) + x5)) >>> ((6 : Int32) &&& 31)) (6 : Int32) M))] [] rfl (ct_X5_addClerk (E := E) (l := ps_l X) ((1 : Int32) + (fv_L_up (pl_ce L xs ((1 : Int32) + x5)) (60 : Int32) M)) ((1 : Int32) + (fv_L_up ((pl_ce L xs ((1 : Int32) + x5)) >>> ((6 : Int32) &&& 31)) (6 : Int32) M)) M (hk.2 c131).2.2.2.1) rc_P rfl (Nat.le_of_ble_eq_true rfl) (Nat.le_of_ble_eq_true rfl) (Nat.le_of_ble_eq_true rfl) ?_
      refine gw_sub C [(0, .ref b), (1, .ref (ps_ad E 0)), (2, .ref (ps_ad E 197)), (4, .int x4), (5, .int x5)] [0, 1, 2, 3, 4] rfl ?_
      exact bw_L_law_169 C RT hX hL _ _ (fun a4 a5  M h => ih a4 a5  M h) x4 x5 ((fv_X5_addClerk ((1 : Int32) + (fv_L_up (pl_ce L xs ((1 : Int32) + x5)) (60 : Int32) M)) ((1 : Int32) + (fv_L_up ((pl_ce L xs ((1 : Int32) + x5)) >>> ((6 : Int32) &&& 31)) (6 : Int32) M)) M).1) ((fv_X5_addClerk ((1 : Int32) + (fv_L_up (pl_ce L xs ((1 : Int32) + x5)) (60 : Int32) M)) ((1 : Int32) + (fv_L_up ((pl_ce L xs ((1 : Int32) + x5)) >>> ((6 : Int32) &&& 31)) (6 : Int32) M)) M).2) (hk.2 c131).2.2.2.2
def fv_L_law_101 (L : Nat) (xs : Nat → Int32) : Nat → Int32 → Int32 → Int32 → ps_M → Int32 × ps_M
  | 0, _, _, _, M => (0, M)
  | n + 1, x3, x4, x5, M => if x3 ≤ x5 then (fv_L_law_127 L xs ps_FU x4 (0 : Int32) M) else (if (fv_X5_addStation M).1 = x5 then (fv_L_law_101 L xs n x3 x4 (x5 + (1 : Int32)) ((fv_X5_addStation M).2)) else (((0 : Int32), (fv_X5_addStation M).2)))
theorem fv_L_law_101_s (L : Nat) (xs : Nat → Int32) (n : Nat) (x3 : Int32) (x4 : Int32) (x5 : Int32) (M : ps_M) : fv_L_law_101 L xs (n + 1) x3 x4 x5 M = (if x3 ≤ x5 then (fv_L_law_127 L xs ps_FU x4 (0 : Int32) M) else (if (fv_X5_addStation M).1 = x5 then (fv_L_law_101 L xs n x3 x4 (x5 + (1 : Int32)) ((fv_X5_addStation M).2)) else (((0 : Int32), (fv_X5_addStation M).2)))) := rfl
def ok_L_law_101 (L : Nat) (xs : Nat → Int32) : Nat → Int32 → Int32 → Int32 → ps_M → Prop
  | 0, _, _, _, _ => False
  | n + 1, x3, x4, x5, M => (x3 ≤ x5 → (ok_L_law_127 L xs ps_FU x4 (0 : Int32) M)) ∧ (¬ (x3 ≤ x5) → ((ok_X5_addStation M) ∧ (((fv_X5_addStation M).1 = x5 → (ok_L_law_101 L xs n x3 x4 (x5 + (1 : Int32)) ((fv_X5_addStation M).2))) ∧ (¬ ((fv_X5_addStation M).1 = x5) → True))))
theorem ok_L_law_101_s (L : Nat) (xs : Nat → Int32) (n : Nat) (x3 : Int32) (x4 : Int32) (x5 : Int32) (M : ps_M) : ok_L_law_101 L xs (n + 1) x3 x4 x5 M = ((x3 ≤ x5 → (ok_L_law_127 L xs ps_FU x4 (0 : Int32) M)) ∧ (¬ (x3 ≤ x5) → ((ok_X5_addStation M) ∧ (((fv_X5_addStation M).1 = x5 → (ok_L_law_101 L xs n x3 x4 (x5 + (1 : Int32)) ((fv_X5_addStation M).2))) ∧ (¬ ((fv_X5_addStation M).1 = x5) → True))))) := rfl
set_option maxRecDepth 100000 in
set_option maxHeartbeats 4000000 in
theorem bw_L_law_101 {E : ps_E} {X : ps_X (Int32 × ps_M)} (C : ps_C (ps_Yc E) X cL_law RL (some .boolean) 7 158 12) (RT : ps_RI (ps_Yc E) X cL_law .boolean) {b L : Nat} {xs : Nat → Int32} (hX : pl_scr (ps_Yc E) X b L xs) (hL : L ≤ 260) : ∀ (n : Nat) (x3 : Int32) (x4 : Int32) (x5 : Int32) (M : ps_M), ok_L_law_101 L xs n x3 x4 x5 M → ps_G (ps_Yc E) X (fv_L_law_101 L xs n x3 x4 x5 M) 101 [(0, .ref b), (1, .ref (ps_ad E 0)), (2, .ref (ps_ad E 197)), (3, .int x3), (4, .int x4), (5, .int x5)] [] M := by
  intro n
  induction n with
  | zero => intro x3 x4 x5 M h; exact h.elim
  | succ n ih =>
    intro x3 x4 x5 M hk
    rw [fv_L_law_101_s]
    rw [ok_L_law_101_s] at hk
    refine gw_iload C 103 dL_law_101 5 rfl rfl ?_
    refine gw_iload_n C 104 dL_law_103 3 rfl rfl ?_
    refine gw_ic_ge C 124 107 dL_law_104 (by decide) rfl (fun c104 => ?_) (fun c104 => ?_)
    · refine gw_iconst C 125 dL_law_124 (v := 0) (by decide) rfl ?_
      refine gw_istore C 127 dL_law_125 rfl [(0, .ref b), (1, .ref (ps_ad E 0)), (2, .ref (ps_ad E 197)), (3, .int x3), (4, .int x4), (5, .int (0 : Int32))] [1, 2, 3, 4, 5, 0] (by decide) rfl ?_
      refine gw_sub C [(0, .ref b), (1, .ref (ps_ad E 0)), (2, .ref (ps_ad E 197)), (4, .int x4), (5, .int (0 : Int32))] [0, 1, 2, 4, 5] rfl ?_
      exact bw_L_law_127 C RT hX hL  ps_FU x4 (0 : Int32) M (hk.1 c104)
    · refine gw_aload_n C 108 dL_law_107 1 rfl rfl ?_
      refine gw_cVi C 111 dL_law_108 rfl yv_X5_addStation lk_L_108 [] [] rfl (ct_X5_addStation (E := E) (l := ps_l X) M (hk.2 c104).1) rc_P rfl (Nat.le_of_ble_eq_true rfl) (Nat.le_of_ble_eq_true rfl) (Nat.le_of_ble_eq_true rfl) ?_
      refine gw_iload C 113 dL_law_111 5 rfl rfl ?_
      refine gw_ic_eq C 118 116 dL_law_113 (by decide) rfl (fun c113 => ?_) (fun c113 => ?_)
      · refine gw_iinc C 121 dL_law_118 rfl (y := 1) (by decide) rfl 5 rfl [(0, .ref b), (1, .ref (ps_ad E 0)), (2, .ref (ps_ad E 197)), (3, .int x3), (4, .int x4), (5, .int (x5 + (1 : Int32)))] [1, 2, 3, 4, 5, 0] (by decide) rfl ?_
        refine gw_goto C 101 dL_law_121 (by decide) ?_
        exact ih x3 x4 (x5 + (1 : Int32)) ((fv_X5_addStation M).2) ((hk.2 c104).2.1 c113)
      · refine gw_iconst C 117 dL_law_116 (v := 0) (by decide) rfl ?_
        exact RT _ _ _ _ dL_law_117 ps_nb0
def fv_L_law (L : Nat) (xs : Nat → Int32)  (M : ps_M) : Int32 × ps_M := if (fv_X5_undo M).1 = (-5 : Int32) then (if (fv_X5_restore ((fv_X5_undo M).2)).1 = (-5 : Int32) then (if (fv_X5_readArrivals (0 : Int32) (0 : Int32) ((fv_X5_restore ((fv_X5_undo M).2)).2)).1 = (-1 : Int32) then (if (fv_X5_free (0 : Int32) ((fv_X5_readArrivals (0 : Int32) (0 : Int32) ((fv_X5_restore ((fv_X5_undo M).2)).2)).2)) = (-5 : Int32) then (if (fv_X5_busiest (0 : Int32) ((fv_X5_readArrivals (0 : Int32) (0 : Int32) ((fv_X5_restore ((fv_X5_undo M).2)).2)).2)) = (-5 : Int32) then (if (fv_L_fails ((fv_X5_readArrivals (0 : Int32) (0 : Int32) ((fv_X5_restore ((fv_X5_undo M).2)).2)).2)).1 = 0 then (((0 : Int32), (fv_L_fails ((fv_X5_readArrivals (0 : Int32) (0 : Int32) ((fv_X5_restore ((fv_X5_undo M).2)).2)).2)).2)) else (fv_L_law_101 L xs ps_FU ((1 : Int32) + (fv_L_up (pl_ce L xs (0 : Int32)) (4 : Int32) ((fv_L_fails ((fv_X5_readArrivals (0 : Int32) (0 : Int32) ((fv_X5_restore ((fv_X5_undo M).2)).2)).2)).2))) ((1 : Int32) + (fv_L_up ((pl_ce L xs (0 : Int32)) >>> ((3 : Int32) &&& 31)) (7 : Int32) ((fv_L_fails ((fv_X5_readArrivals (0 : Int32) (0 : Int32) ((fv_X5_restore ((fv_X5_undo M).2)).2)).2)).2))) (0 : Int32) ((fv_L_fails ((fv_X5_readArrivals (0 : Int32) (0 : Int32) ((fv_X5_restore ((fv_X5_undo M).2)).2)).2)).2))) else (((0 : Int32), (fv_X5_readArrivals (0 : Int32) (0 : Int32) ((fv_X5_restore ((fv_X5_undo M).2)).2)).2))) else (((0 : Int32), (fv_X5_readArrivals (0 : Int32) (0 : Int32) ((fv_X5_restore ((fv_X5_undo M).2)).2)).2))) else (((0 : Int32), (fv_X5_readArrivals (0 : Int32) (0 : Int32) ((fv_X5_restore ((fv_X5_undo M).2)).2)).2))) else (((0 : Int32), (fv_X5_restore ((fv_X5_undo M).2)).2))) else (((0 : Int32), (fv_X5_undo M).2))
def ok_L_law (L : Nat) (xs : Nat → Int32)  (M : ps_M) : Prop := (ok_X5_undo M) ∧ (((fv_X5_undo M).1 = (-5 : Int32) → ((ok_X5_restore ((fv_X5_undo M).2)) ∧ (((fv_X5_restore ((fv_X5_undo M).2)).1 = (-5 : Int32) → ((ok_X5_readArrivals (0 : Int32) (0 : Int32) ((fv_X5_restore ((fv_X5_undo M).2)).2)) ∧ (((fv_X5_readArrivals (0 : Int32) (0 : Int32) ((fv_X5_restore ((fv_X5_undo M).2)).2)).1 = (-1 : Int32) → ((ok_X5_free (0 : Int32) ((fv_X5_readArrivals (0 : Int32) (0 : Int32) ((fv_X5_restore ((fv_X5_undo M).2)).2)).2)) ∧ (((fv_X5_free (0 : Int32) ((fv_X5_readArrivals (0 : Int32) (0 : Int32) ((fv_X5_restore ((fv_X5_undo M).2)).2)).2)) = (-5 : Int32) → ((ok_X5_busiest (0 : Int32) ((fv_X5_readArrivals (0 : Int32) (0 : Int32) ((fv_X5_restore ((fv_X5_undo M).2)).2)).2)) ∧ (((fv_X5_busiest (0 : Int32) ((fv_X5_readArrivals (0 : Int32) (0 : Int32) ((fv_X5_restore ((fv_X5_undo M).2)).2)).2)) = (-5 : Int32) → ((ok_L_fails ((fv_X5_readArrivals (0 : Int32) (0 : Int32) ((fv_X5_restore ((fv_X5_undo M).2)).2)).2)) ∧ (((fv_L_fails ((fv_X5_readArrivals (0 : Int32) (0 : Int32) ((fv_X5_restore ((fv_X5_undo M).2)).2)).2)).1 = 0 → True) ∧ (¬ ((fv_L_fails ((fv_X5_readArrivals (0 : Int32) (0 : Int32) ((fv_X5_restore ((fv_X5_undo M).2)).2)).2)).1 = 0) → ((¬ (0 : Int32) < 0) ∧ ((ok_L_up (pl_ce L xs (0 : Int32)) (4 : Int32) ((fv_L_fails ((fv_X5_readArrivals (0 : Int32) (0 : Int32) ((fv_X5_restore ((fv_X5_undo M).2)).2)).2)).2)) ∧ ((¬ (0 : Int32) < 0) ∧ ((ok_L_up ((pl_ce L xs (0 : Int32)) >>> ((3 : Int32) &&& 31)) (7 : Int32) ((fv_L_fails ((fv_X5_readArrivals (0 : Int32) (0 : Int32) ((fv_X5_restore ((fv_X5_undo M).2)).2)).2)).2)) ∧ (ok_L_law_101 L xs ps_FU ((1 : Int32) + (fv_L_up (pl_ce L xs (0 : Int32)) (4 : Int32) ((fv_L_fails ((fv_X5_readArrivals (0 : Int32) (0 : Int32) ((fv_X5_restore ((fv_X5_undo M).2)).2)).2)).2))) ((1 : Int32) + (fv_L_up ((pl_ce L xs (0 : Int32)) >>> ((3 : Int32) &&& 31)) (7 : Int32) ((fv_L_fails ((fv_X5_readArrivals (0 : Int32) (0 : Int32) ((fv_X5_restore ((fv_X5_undo M).2)).2)).2)).2))) (0 : Int32) ((fv_L_fails ((fv_X5_readArrivals (0 : Int32) (0 : Int32) ((fv_X5_restore ((fv_X5_undo M).2)).2)).2)).2)))))))))) ∧ (¬ ((fv_X5_busiest (0 : Int32) ((fv_X5_readArrivals (0 : Int32) (0 : Int32) ((fv_X5_restore ((fv_X5_undo M).2)).2)).2)) = (-5 : Int32)) → True)))) ∧ (¬ ((fv_X5_free (0 : Int32) ((fv_X5_readArrivals (0 : Int32) (0 : Int32) ((fv_X5_restore ((fv_X5_undo M).2)).2)).2)) = (-5 : Int32)) → True)))) ∧ (¬ ((fv_X5_readArrivals (0 : Int32) (0 : Int32) ((fv_X5_restore ((fv_X5_undo M).2)).2)).1 = (-1 : Int32)) → True)))) ∧ (¬ ((fv_X5_restore ((fv_X5_undo M).2)).1 = (-5 : Int32)) → True)))) ∧ (¬ ((fv_X5_undo M).1 = (-5 : Int32)) → True))
set_option maxRecDepth 100000 in
set_option maxHeartbeats 4000000 in
theorem bw_L_law {E : ps_E} {X : ps_X (Int32 × ps_M)} (C : ps_C (ps_Yc E) X cL_law RL (some .boolean) 7 158 12) (RT : ps_RI (ps_Yc E) X cL_law .boolean) {b L : Nat} {xs : Nat → Int32} (hX : pl_scr (ps_Yc E) X b L xs) (hL : L ≤ 260)  (M : ps_M) (hk : ok_L_law L xs  M) : ps_G (ps_Yc E) X (fv_L_law L xs  M) 13 [(0, .ref b), (1, .ref (ps_ad E 0)), (2, .ref (ps_ad E 197))] [] M := by
  unfold fv_L_law
  unfold ok_L_law at hk
  refine gw_aload_n C 14 dL_law_13 1 rfl rfl ?_
  refine gw_cVi C 17 dL_law_14 rfl yv_X5_undo lk_L_92 [] [] rfl (ct_X5_undo (E := E) (l := ps_l X) M hk.1) rc_P rfl (Nat.le_of_ble_eq_true rfl) (Nat.le_of_ble_eq_true rfl) (Nat.le_of_ble_eq_true rfl) ?_
  refine gw_bipush C 19 dL_law_17 (v := (-5)) (by decide) rfl ?_
  refine gw_ic_ne C 68 22 dL_law_19 (by decide) rfl (fun c19 => ?_) (fun c19 => ?_)
  · refine gw_aload_n C 23 dL_law_22 1 rfl rfl ?_
    refine gw_cVi C 26 dL_law_23 rfl yv_X5_restore lk_L_97 [] [] rfl (ct_X5_restore (E := E) (l := ps_l X) ((fv_X5_undo M).2) (hk.2.1 c19).1) rc_P rfl (Nat.le_of_ble_eq_true rfl) (Nat.le_of_ble_eq_true rfl) (Nat.le_of_ble_eq_true rfl) ?_
    refine gw_bipush C 28 dL_law_26 (v := (-5)) (by decide) rfl ?_
    refine gw_ic_ne C 68 31 dL_law_28 (by decide) rfl (fun c28 => ?_) (fun c28 => ?_)
    · refine gw_aload_n C 32 dL_law_31 1 rfl rfl ?_
      refine gw_iconst C 33 dL_law_32 (v := 0) (by decide) rfl ?_
      refine gw_iconst C 34 dL_law_33 (v := 0) (by decide) rfl ?_
      refine gw_cVi C 37 dL_law_34 rfl yv_X5_readArrivals lk_L_72 [.int (0 : Int32), .int (0 : Int32)] [] rfl (ct_X5_readArrivals (E := E) (l := ps_l X) (0 : Int32) (0 : Int32) ((fv_X5_restore ((fv_X5_undo M).2)).2) ((hk.2.1 c19).2.1 c28).1) rc_P rfl (Nat.le_of_ble_eq_true rfl) (Nat.le_of_ble_eq_true rfl) (Nat.le_of_ble_eq_true rfl) ?_
      refine gw_iconst C 38 dL_law_37 (v := (-1)) (by decide) rfl ?_
      refine gw_ic_ne C 68 41 dL_law_38 (by decide) rfl (fun c38 => ?_) (fun c38 => ?_)
      · refine gw_aload_n C 42 dL_law_41 1 rfl rfl ?_
        refine gw_iconst C 43 dL_law_42 (v := 0) (by decide) rfl ?_
        refine gw_cVp C 46 dL_law_43 rfl yv_X5_free lk_L_75 [.int (0 : Int32)] [] rfl (ct_X5_free (E := E) (l := ps_l X) (0 : Int32) ((fv_X5_readArrivals (0 : Int32) (0 : Int32) ((fv_X5_restore ((fv_X5_undo M).2)).2)).2) (((hk.2.1 c19).2.1 c28).2.1 c38).1) rc_P rfl (Nat.le_of_ble_eq_true rfl) (Nat.le_of_ble_eq_true rfl) (Nat.le_of_ble_eq_true rfl) ?_
        refine gw_bipush C 48 dL_law_46 (v := (-5)) (by decide) rfl ?_
        refine gw_ic_ne C 68 51 dL_law_48 (by decide) rfl (fun c48 => ?_) (fun c48 => ?_)
        · refine gw_aload_n C 52 dL_law_51 1 rfl rfl ?_
          refine gw_iconst C 53 dL_law_52 (v := 0) (by decide) rfl ?_
          refine gw_cVp C 56 dL_law_53 rfl yv_X5_busiest lk_L_78 [.int (0 : Int32)] [] rfl (ct_X5_busiest (E := E) (l := ps_l X) (0 : Int32) ((fv_X5_readArrivals (0 : Int32) (0 : Int32) ((fv_X5_restore ((fv_X5_undo M).2)).2)).2) ((((hk.2.1 c19).2.1 c28).2.1 c38).2.1 c48).1) rc_P rfl (Nat.le_of_ble_eq_true rfl) (Nat.le_of_ble_eq_true rfl) (Nat.le_of_ble_eq_true rfl) ?_
          refine gw_bipush C 58 dL_law_56 (v := (-5)) (by decide) rfl ?_
          refine gw_ic_ne C 68 61 dL_law_58 (by decide) rfl (fun c58 => ?_) (fun c58 => ?_)
          · refine gw_aload_n C 62 dL_law_61 1 rfl rfl ?_
            refine gw_cSi C 65 dL_law_62 rfl yv_L_fails lk_L_100 [.ref (ps_ad E 0)] [] rfl (ct_L_fails (E := E) (l := ps_l X) ((fv_X5_readArrivals (0 : Int32) (0 : Int32) ((fv_X5_restore ((fv_X5_undo M).2)).2)).2) (((((hk.2.1 c19).2.1 c28).2.1 c38).2.1 c48).2.1 c58).1) rfl (Nat.le_of_ble_eq_true rfl) (Nat.le_of_ble_eq_true rfl) (Nat.le_of_ble_eq_true rfl) ?_
            refine gw_if_ne C 70 68 dL_law_65 (by decide) rfl (fun c65 => ?_) (fun c65 => ?_)
            · refine gw_iconst C 69 dL_law_68 (v := 0) (by decide) rfl ?_
              exact RT _ _ _ _ dL_law_69 ps_nb0
            · refine gw_iconst C 71 dL_law_70 (v := 1) (by decide) rfl ?_
              refine gw_aload_n C 72 dL_law_71 0 rfl rfl ?_
              refine gw_iconst C 73 dL_law_72 (v := 0) (by decide) rfl ?_
              refine gl_cell C 76 dL_law_73 rfl lk_L_104 hX hL ((((((hk.2.1 c19).2.1 c28).2.1 c38).2.1 c48).2.1 c58).2.2 c65).1 [.int (1 : Int32)] rfl (Nat.le_of_ble_eq_true rfl) (Nat.le_of_ble_eq_true rfl) (Nat.le_of_ble_eq_true rfl) ?_
              refine gw_iconst C 77 dL_law_76 (v := 4) (by decide) rfl ?_
              refine gw_cSp C 80 dL_law_77 rfl yv_L_up lk_L_89 [.int (pl_ce L xs (0 : Int32)), .int (4 : Int32)] [.int (1 : Int32)] rfl (ct_L_up (E := E) (l := ps_l X) (pl_ce L xs (0 : Int32)) (4 : Int32) ((fv_L_fails ((fv_X5_readArrivals (0 : Int32) (0 : Int32) ((fv_X5_restore ((fv_X5_undo M).2)).2)).2)).2) ((((((hk.2.1 c19).2.1 c28).2.1 c38).2.1 c48).2.1 c58).2.2 c65).2.1) rfl (Nat.le_of_ble_eq_true rfl) (Nat.le_of_ble_eq_true rfl) (Nat.le_of_ble_eq_true rfl) ?_
              refine gw_iadd C 81 dL_law_80 rfl ?_
              refine gw_istore_n C 82 dL_law_81 rfl [(0, .ref b), (1, .ref (ps_ad E 0)), (2, .ref (ps_ad E 197)), (3, .int ((1 : Int32) + (fv_L_up (pl_ce L xs (0 : Int32)) (4 : Int32) ((fv_L_fails ((fv_X5_readArrivals (0 : Int32) (0 : Int32) ((fv_X5_restore ((fv_X5_undo M).2)).2)).2)).2))))] [1, 2, 3, 0] (by decide) rfl ?_
              refine gw_iconst C 83 dL_law_82 (v := 1) (by decide) rfl ?_
              refine gw_aload_n C 84 dL_law_83 0 rfl rfl ?_
              refine gw_iconst C 85 dL_law_84 (v := 0) (by decide) rfl ?_
              refine gl_cell C 88 dL_law_85 rfl lk_L_104 hX hL ((((((hk.2.1 c19).2.1 c28).2.1 c38).2.1 c48).2.1 c58).2.2 c65).2.2.1 [.int (1 : Int32)] rfl (Nat.le_of_ble_eq_true rfl) (Nat.le_of_ble_eq_true rfl) (Nat.le_of_ble_eq_true rfl) ?_
              refine gw_iconst C 89 dL_law_88 (v := 3) (by decide) rfl ?_
              refine gw_ishr C 90 dL_law_89 rfl ?_
              refine gw_bipush C 92 dL_law_90 (v := 7) (by decide) rfl ?_
              refine gw_cSp C 95 dL_law_92 rfl yv_L_up lk_L_89 [.int ((pl_ce L xs (0 : Int32)) >>> ((3 : Int32) &&& 31)), .int (7 : Int32)] [.int (1 : Int32)] rfl (ct_L_up (E := E) (l := ps_l X) ((pl_ce L xs (0 : Int32)) >>> ((3 : Int32) &&& 31)) (7 : Int32) ((fv_L_fails ((fv_X5_readArrivals (0 : Int32) (0 : Int32) ((fv_X5_restore ((fv_X5_undo M).2)).2)).2)).2) ((((((hk.2.1 c19).2.1 c28).2.1 c38).2.1 c48).2.1 c58).2.2 c65).2.2.2.1) rfl (Nat.le_of_ble_eq_true rfl) (Nat.le_of_ble_eq_true rfl) (Nat.le_of_ble_eq_true rfl) ?_
              refine gw_iadd C 96 dL_law_95 rfl ?_
              refine gw_istore C 98 dL_law_96 rfl [(0, .ref b), (1, .ref (ps_ad E 0)), (2, .ref (ps_ad E 197)), (3, .int ((1 : Int32) + (fv_L_up (pl_ce L xs (0 : Int32)) (4 : Int32) ((fv_L_fails ((fv_X5_readArrivals (0 : Int32) (0 : Int32) ((fv_X5_restore ((fv_X5_undo M).2)).2)).2)).2)))), (4, .int ((1 : Int32) + (fv_L_up ((pl_ce L xs (0 : Int32)) >>> ((3 : Int32) &&& 31)) (7 : Int32) ((fv_L_fails ((fv_X5_readArrivals (0 : Int32) (0 : Int32) ((fv_X5_restore ((fv_X5_undo M).2)).2)).2)).2))))] [1, 2, 3, 4, 0] (by decide) rfl ?_
              refine gw_iconst C 99 dL_law_98 (v := 0) (by decide) rfl ?_
              refine gw_istore C 101 dL_law_99 rfl [(0, .ref b), (1, .ref (ps_ad E 0)), (2, .ref (ps_ad E 197)), (3, .int ((1 : Int32) + (fv_L_up (pl_ce L xs (0 : Int32)) (4 : Int32) ((fv_L_fails ((fv_X5_readArrivals (0 : Int32) (0 : Int32) ((fv_X5_restore ((fv_X5_undo M).2)).2)).2)).2)))), (4, .int ((1 : Int32) + (fv_L_up ((pl_ce L xs (0 : Int32)) >>> ((3 : Int32) &&& 31)) (7 : Int32) ((fv_L_fails ((fv_X5_readArrivals (0 : Int32) (0 : Int32) ((fv_X5_restore ((fv_X5_undo M).2)).2)).2)).2)))), (5, .int (0 : Int32))] [1, 2, 3, 4, 5, 0] (by decide) rfl ?_
              exact bw_L_law_101 C RT hX hL  ps_FU ((1 : Int32) + (fv_L_up (pl_ce L xs (0 : Int32)) (4 : Int32) ((fv_L_fails ((fv_X5_readArrivals (0 : Int32) (0 : Int32) ((fv_X5_restore ((fv_X5_undo M).2)).2)).2)).2))) ((1 : Int32) + (fv_L_up ((pl_ce L xs (0 : Int32)) >>> ((3 : Int32) &&& 31)) (7 : Int32) ((fv_L_fails ((fv_X5_readArrivals (0 : Int32) (0 : Int32) ((fv_X5_restore ((fv_X5_undo M).2)).2)).2)).2))) (0 : Int32) ((fv_L_fails ((fv_X5_readArrivals (0 : Int32) (0 : Int32) ((fv_X5_restore ((fv_X5_undo M).2)).2)).2)).2) ((((((hk.2.1 c19).2.1 c28).2.1 c38).2.1 c48).2.1 c58).2.2 c65).2.2.2.2
          · refine gw_iconst C 69 dL_law_68 (v := 0) (by decide) rfl ?_
            exact RT _ _ _ _ dL_law_69 ps_nb0
        · refine gw_iconst C 69 dL_law_68 (v := 0) (by decide) rfl ?_
          exact RT _ _ _ _ dL_law_69 ps_nb0
      · refine gw_iconst C 69 dL_law_68 (v := 0) (by decide) rfl ?_
        exact RT _ _ _ _ dL_law_69 ps_nb0
    · refine gw_iconst C 69 dL_law_68 (v := 0) (by decide) rfl ?_
      exact RT _ _ _ _ dL_law_69 ps_nb0
  · refine gw_iconst C 69 dL_law_68 (v := 0) (by decide) rfl ?_
    exact RT _ _ _ _ dL_law_69 ps_nb0
