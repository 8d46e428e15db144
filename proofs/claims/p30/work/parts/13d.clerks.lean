def fv_L_clerks_377 (rec320 : Int32 → Int32 → Int32 → Int32 → Int32 → Int32 → Int32 → Int32 → ps_M → Int32 × ps_M) (x1 : Int32) (x2 : Int32) (x3 : Int32) (x4 : Int32) (x5 : Int32) (x6 : Int32) (x8 : Int32) (s1 : Int32) (s0 : Int32) (M : ps_M) : Int32 × ps_M := rec320 x1 x2 x3 x4 x5 x6 (s0 + s1) (x8 + (1 : Int32)) M
def ok_L_clerks_377 (rec320 : Int32 → Int32 → Int32 → Int32 → Int32 → Int32 → Int32 → Int32 → ps_M → Int32 × ps_M) (okr320 : Int32 → Int32 → Int32 → Int32 → Int32 → Int32 → Int32 → Int32 → ps_M → Prop) (x1 : Int32) (x2 : Int32) (x3 : Int32) (x4 : Int32) (x5 : Int32) (x6 : Int32) (x8 : Int32) (s1 : Int32) (s0 : Int32) (M : ps_M) : Prop := okr320 x1 x2 x3 x4 x5 x6 (s0 + s1) (x8 + (1 : Int32)) M
set_option maxRecDepth 100000 in
set_option maxHeartbeats 4000000 in
theorem bw_L_clerks_377 {E : ps_E} {X : ps_X (Int32 × ps_M)} (C : ps_C (ps_Yc E) X cL_clerks RL (some .boolean) 4 86 9) (RT : ps_RI (ps_Yc E) X cL_clerks .boolean) (rec320 : Int32 → Int32 → Int32 → Int32 → Int32 → Int32 → Int32 → Int32 → ps_M → Int32 × ps_M) (okr320 : Int32 → Int32 → Int32 → Int32 → Int32 → Int32 → Int32 → Int32 → ps_M → Prop) (hr320 : ∀ (x1 : Int32) (x2 : Int32) (x3 : Int32) (x4 : Int32) (x5 : Int32) (x6 : Int32) (x7 : Int32) (x8 : Int32)  (M : ps_M), okr320 x1 x2 x3 x4 x5 x6 x7 x8 M → ps_G (ps_Yc E) X (rec320 x1 x2 x3 x4 x5 x6 x7 x8 M) 320 [(0, .ref (ps_ad E 0)), (1, .int x1), (2, .int x2), (3, .int x3), (4, .int x4), (5, .int x5), (6, .int x6), (7, .int x7), (8, .int x8)] [] M) (x1 : Int32) (x2 : Int32) (x3 : Int32) (x4 : Int32) (x5 : Int32) (x6 : Int32) (x8 : Int32) (s1 : Int32) (s0 : Int32) (M : ps_M) (hk : ok_L_clerks_377 rec320 okr320 x1 x2 x3 x4 x5 x6 x8 s1 s0 M) : ps_G (ps_Yc E) X (fv_L_clerks_377 rec320 x1 x2 x3 x4 x5 x6 x8 s1 s0 M) 377 [(0, .ref (ps_ad E 0)), (1, .int x1), (2, .int x2), (3, .int x3), (4, .int x4), (5, .int x5), (6, .int x6), (8, .int x8)] [.int s1, .int s0] M := by
  unfold fv_L_clerks_377
  unfold ok_L_clerks_377 at hk
  refine gw_iadd C 378 dL_clerks_377 rfl ?_
  refine gw_istore C 380 dL_clerks_378 rfl [(0, .ref (ps_ad E 0)), (1, .int x1), (2, .int x2), (3, .int x3), (4, .int x4), (5, .int x5), (6, .int x6), (7, .int (s0 + s1)), (8, .int x8)] [1, 2, 3, 4, 5, 6, 7, 0, 8] (by decide) rfl ?_
  refine gw_iinc C 383 dL_clerks_380 rfl (y := 1) (by decide) rfl 8 rfl [(0, .ref (ps_ad E 0)), (1, .int x1), (2, .int x2), (3, .int x3), (4, .int x4), (5, .int x5), (6, .int x6), (7, .int (s0 + s1)), (8, .int (x8 + (1 : Int32)))] [1, 2, 3, 4, 5, 6, 7, 8, 0] (by decide) rfl ?_
  refine gw_goto C 320 dL_clerks_383 (by decide) ?_
  exact hr320 x1 x2 x3 x4 x5 x6 (s0 + s1) (x8 + (1 : Int32)) M hk
def fv_L_clerks_349 (rec320 : Int32 → Int32 → Int32 → Int32 → Int32 → Int32 → Int32 → Int32 → ps_M → Int32 × ps_M) (x1 : Int32) (x2 : Int32) (x3 : Int32) (x4 : Int32) (x5 : Int32) (x7 : Int32) (x8 : Int32) (s1 : Int32) (s0 : Int32) (M : ps_M) : Int32 × ps_M := if (fv_X5_clerk x8 (2 : Int32) M) = x5 then (fv_L_clerks_377 rec320 x1 x2 x3 x4 x5 (s0 + s1) x8 (fv_X5_clerk x8 (0 : Int32) M) x7 M) else (fv_L_clerks_377 rec320 x1 x2 x3 x4 x5 (s0 + s1) x8 (0 : Int32) x7 M)
def ok_L_clerks_349 (rec320 : Int32 → Int32 → Int32 → Int32 → Int32 → Int32 → Int32 → Int32 → ps_M → Int32 × ps_M) (okr320 : Int32 → Int32 → Int32 → Int32 → Int32 → Int32 → Int32 → Int32 → ps_M → Prop) (x1 : Int32) (x2 : Int32) (x3 : Int32) (x4 : Int32) (x5 : Int32) (x7 : Int32) (x8 : Int32) (s1 : Int32) (s0 : Int32) (M : ps_M) : Prop := (ok_X5_clerk x8 (2 : Int32) M) ∧ (((fv_X5_clerk x8 (2 : Int32) M) = x5 → ((ok_X5_clerk x8 (0 : Int32) M) ∧ (ok_L_clerks_377 rec320 okr320 x1 x2 x3 x4 x5 (s0 + s1) x8 (fv_X5_clerk x8 (0 : Int32) M) x7 M))) ∧ (¬ ((fv_X5_clerk x8 (2 : Int32) M) = x5) → (ok_L_clerks_377 rec320 okr320 x1 x2 x3 x4 x5 (s0 + s1) x8 (0 : Int32) x7 M)))
set_option maxRecDepth 100000 in
set_option maxHeartbeats 4000000 in
theorem bw_L_clerks_349 {E : ps_E} {X : ps_X (Int32 × ps_M)} (C : ps_C (ps_Yc E) X cL_clerks RL (some .boolean) 4 86 9) (RT : ps_RI (ps_Yc E) X cL_clerks .boolean) (rec320 : Int32 → Int32 → Int32 → Int32 → Int32 → Int32 → Int32 → Int32 → ps_M → Int32 × ps_M) (okr320 : Int32 → Int32 → Int32 → Int32 → Int32 → Int32 → Int32 → Int32 → ps_M → Prop) (hr320 : ∀ (x1 : Int32) (x2 : Int32) (x3 : Int32) (x4 : Int32) (x5 : Int32) (x6 : Int32) (x7 : Int32) (x8 : Int32)  (M : ps_M), okr320 x1 x2 x3 x4 x5 x6 x7 x8 M → ps_G (ps_Yc E) X (rec320 x1 x2 x3 x4 x5 x6 x7 x8 M) 320 [(0, .ref (ps_ad E 0)), (1, .int x1), (2, .int x2), (3, .int x3), (4, .int x4), (5, .int x5), (6, .int x6), (7, .int x7), (8, .int x8)] [] M) (x1 : Int32) (x2 : Int32) (x3 : Int32) (x4 : Int32) (x5 : Int32) (x7 : Int32) (x8 : Int32) (s1 : Int32) (s0 : Int32) (M : ps_M) (hk : ok_L_clerks_349 rec320 okr320 x1 x2 x3 x4 x5 x7 x8 s1 s0 M) : ps_G (ps_Yc E) X (fv_L_clerks_349 rec320 x1 x2 x3 x4 x5 x7 x8 s1 s0 M) 349 [(0, .ref (ps_ad E 0)), (1, .int x1), (2, .int x2), (3, .int x3), (4, .int x4), (5, .int x5), (7, .int x7), (8, .int x8)] [.int s1, .int s0] M := by
  unfold fv_L_clerks_349
  unfold ok_L_clerks_349 at hk
  refine gw_iadd C 350 dL_clerks_349 rfl ?_
  refine gw_istore C 352 dL_clerks_350 rfl [(0, .ref (ps_ad E 0)), (1, .int x1), (2, .int x2), (3, .int x3), (4, .int x4), (5, .int x5), (6, .int (s0 + s1)), (7, .int x7), (8, .int x8)] [1, 2, 3, 4, 5, 6, 0, 7, 8] (by decide) rfl ?_
  refine gw_iload C 354 dL_clerks_352 7 rfl rfl ?_
  refine gw_aload_n C 355 dL_clerks_354 0 rfl rfl ?_
  refine gw_iload C 357 dL_clerks_355 8 rfl rfl ?_
  refine gw_iconst C 358 dL_clerks_357 (v := 2) (by decide) rfl ?_
  refine gw_cVp C 361 dL_clerks_358 rfl yv_X5_clerk lk_L_29 [.int x8, .int (2 : Int32)] [.int x7] rfl (ct_X5_clerk (E := E) (l := ps_l X) x8 (2 : Int32) M hk.1) rc_P rfl (Nat.le_of_ble_eq_true rfl) (Nat.le_of_ble_eq_true rfl) (Nat.le_of_ble_eq_true rfl) ?_
  refine gw_iload C 363 dL_clerks_361 5 rfl rfl ?_
  refine gw_ic_ne C 376 366 dL_clerks_363 (by decide) rfl (fun c363 => ?_) (fun c363 => ?_)
  · refine gw_aload_n C 367 dL_clerks_366 0 rfl rfl ?_
    refine gw_iload C 369 dL_clerks_367 8 rfl rfl ?_
    refine gw_iconst C 370 dL_clerks_369 (v := 0) (by decide) rfl ?_
    refine gw_cVp C 373 dL_clerks_370 rfl yv_X5_clerk lk_L_29 [.int x8, .int (0 : Int32)] [.int x7] rfl (ct_X5_clerk (E := E) (l := ps_l X) x8 (0 : Int32) M (hk.2.1 c363).1) rc_P rfl (Nat.le_of_ble_eq_true rfl) (Nat.le_of_ble_eq_true rfl) (Nat.le_of_ble_eq_true rfl) ?_
    refine gw_goto C 377 dL_clerks_373 (by decide) ?_
    refine gw_sub C [(0, .ref (ps_ad E 0)), (1, .int x1), (2, .int x2), (3, .int x3), (4, .int x4), (5, .int x5), (6, .int (s0 + s1)), (8, .int x8)] [0, 1, 2, 3, 4, 5, 6, 8] rfl ?_
    exact bw_L_clerks_377 C RT _ _ hr320 x1 x2 x3 x4 x5 (s0 + s1) x8 (fv_X5_clerk x8 (0 : Int32) M) x7 M (hk.2.1 c363).2
  · refine gw_iconst C 377 dL_clerks_376 (v := 0) (by decide) rfl ?_
    refine gw_sub C [(0, .ref (ps_ad E 0)), (1, .int x1), (2, .int x2), (3, .int x3), (4, .int x4), (5, .int x5), (6, .int (s0 + s1)), (8, .int x8)] [0, 1, 2, 3, 4, 5, 6, 8] rfl ?_
    exact bw_L_clerks_377 C RT _ _ hr320 x1 x2 x3 x4 x5 (s0 + s1) x8 (0 : Int32) x7 M (hk.2.2 c363)
def fv_L_clerks_320 (rec301 : Int32 → Int32 → Int32 → Int32 → Int32 → ps_M → Int32 × ps_M) : Nat → Int32 → Int32 → Int32 → Int32 → Int32 → Int32 → Int32 → Int32 → ps_M → Int32 × ps_M
  | 0, _, _, _, _, _, _, _, _, M => (0, M)
  | n + 1, x1, x2, x3, x4, x5, x6, x7, x8, M => if (fv_X5_count (2 : Int32) M).1 ≤ x8 then (if (fv_X5_station x5 (4 : Int32) ((fv_X5_count (2 : Int32) M).2)) = x6 then (if (fv_X5_station x5 (5 : Int32) ((fv_X5_count (2 : Int32) M).2)) = x7 then (rec301 x1 x2 x3 (x4 + x6) (x5 + (1 : Int32)) ((fv_X5_count (2 : Int32) M).2)) else (((0 : Int32), (fv_X5_count (2 : Int32) M).2))) else (((0 : Int32), (fv_X5_count (2 : Int32) M).2))) else (if (fv_X5_clerk x8 (2 : Int32) ((fv_X5_count (2 : Int32) M).2)) = x5 then (fv_L_clerks_349 (fun a1 a2 a3 a4 a5 a6 a7 a8 M => fv_L_clerks_320 rec301 n a1 a2 a3 a4 a5 a6 a7 a8 M) x1 x2 x3 x4 x5 x7 x8 (1 : Int32) x6 ((fv_X5_count (2 : Int32) M).2)) else (fv_L_clerks_349 (fun a1 a2 a3 a4 a5 a6 a7 a8 M => fv_L_clerks_320 rec301 n a1 a2 a3 a4 a5 a6 a7 a8 M) x1 x2 x3 x4 x5 x7 x8 (0 : Int32) x6 ((fv_X5_count (2 : Int32) M).2)))
theorem fv_L_clerks_320_s (rec301 : Int32 → Int32 → Int32 → Int32 → Int32 → ps_M → Int32 × ps_M) (n : Nat) (x1 : Int32) (x2 : Int32) (x3 : Int32) (x4 : Int32) (x5 : Int32) (x6 : Int32) (x7 : Int32) (x8 : Int32) (M : ps_M) : fv_L_clerks_320 rec301 (n + 1) x1 x2 x3 x4 x5 x6 x7 x8 M = (if (fv_X5_count (2 : Int32) M).1 ≤ x8 then (if (fv_X5_station x5 (4 : Int32) ((fv_X5_count (2 : Int32) M).2)) = x6 then (if (fv_X5_station x5 (5 : Int32) ((fv_X5_count (2 : Int32) M).2)) = x7 then (rec301 x1 x2 x3 (x4 + x6) (x5 + (1 : Int32)) ((fv_X5_count (2 : Int32) M).2)) else (((0 : Int32), (fv_X5_count (2 : Int32) M).2))) else (((0 : Int32), (fv_X5_count (2 : Int32) M).2))) else (if (fv_X5_clerk x8 (2 : Int32) ((fv_X5_count (2 : Int32) M).2)) = x5 then (fv_L_clerks_349 (fun a1 a2 a3 a4 a5 a6 a7 a8 M => fv_L_clerks_320 rec301 n a1 a2 a3 a4 a5 a6 a7 a8 M) x1 x2 x3 x4 x5 x7 x8 (1 : Int32) x6 ((fv_X5_count (2 : Int32) M).2)) else (fv_L_clerks_349 (fun a1 a2 a3 a4 a5 a6 a7 a8 M => fv_L_clerks_320 rec301 n a1 a2 a3 a4 a5 a6 a7 a8 M) x1 x2 x3 x4 x5 x7 x8 (0 : Int32) x6 ((fv_X5_count (2 : Int32) M).2)))) := rfl
def ok_L_clerks_320 (rec301 : Int32 → Int32 → Int32 → Int32 → Int32 → ps_M → Int32 × ps_M) (okr301 : Int32 → Int32 → Int32 → Int32 → Int32 → ps_M → Prop) : Nat → Int32 → Int32 → Int32 → Int32 → Int32 → Int32 → Int32 → Int32 → ps_M → Prop
  | 0, _, _, _, _, _, _, _, _, _ => False
  | n + 1, x1, x2, x3, x4, x5, x6, x7, x8, M => (ok_X5_count (2 : Int32) M) ∧ (((fv_X5_count (2 : Int32) M).1 ≤ x8 → ((ok_X5_station x5 (4 : Int32) ((fv_X5_count (2 : Int32) M).2)) ∧ (((fv_X5_station x5 (4 : Int32) ((fv_X5_count (2 : Int32) M).2)) = x6 → ((ok_X5_station x5 (5 : Int32) ((fv_X5_count (2 : Int32) M).2)) ∧ (((fv_X5_station x5 (5 : Int32) ((fv_X5_count (2 : Int32) M).2)) = x7 → (okr301 x1 x2 x3 (x4 + x6) (x5 + (1 : Int32)) ((fv_X5_count (2 : Int32) M).2))) ∧ (¬ ((fv_X5_station x5 (5 : Int32) ((fv_X5_count (2 : Int32) M).2)) = x7) → True)))) ∧ (¬ ((fv_X5_station x5 (4 : Int32) ((fv_X5_count (2 : Int32) M).2)) = x6) → True)))) ∧ (¬ ((fv_X5_count (2 : Int32) M).1 ≤ x8) → ((ok_X5_clerk x8 (2 : Int32) ((fv_X5_count (2 : Int32) M).2)) ∧ (((fv_X5_clerk x8 (2 : Int32) ((fv_X5_count (2 : Int32) M).2)) = x5 → (ok_L_clerks_349 (fun a1 a2 a3 a4 a5 a6 a7 a8 M => fv_L_clerks_320 rec301 n a1 a2 a3 a4 a5 a6 a7 a8 M) (fun a1 a2 a3 a4 a5 a6 a7 a8 M => ok_L_clerks_320 rec301 okr301 n a1 a2 a3 a4 a5 a6 a7 a8 M) x1 x2 x3 x4 x5 x7 x8 (1 : Int32) x6 ((fv_X5_count (2 : Int32) M).2))) ∧ (¬ ((fv_X5_clerk x8 (2 : Int32) ((fv_X5_count (2 : Int32) M).2)) = x5) → (ok_L_clerks_349 (fun a1 a2 a3 a4 a5 a6 a7 a8 M => fv_L_clerks_320 rec301 n a1 a2 a3 a4 a5 a6 a7 a8 M) (fun a1 a2 a3 a4 a5 a6 a7 a8 M => ok_L_clerks_320 rec301 okr301 n a1 a2 a3 a4 a5 a6 a7 a8 M) x1 x2 x3 x4 x5 x7 x8 (0 : Int32) x6 ((fv_X5_count (2 : Int32) M).2)))))))
theorem ok_L_clerks_320_s (rec301 : Int32 → Int32 → Int32 → Int32 → Int32 → ps_M → Int32 × ps_M) (okr301 : Int32 → Int32 → Int32 → Int32 → Int32 → ps_M → Prop) (n : Nat) (x1 : Int32) (x2 : Int32) (x3 : Int32) (x4 : Int32) (x5 : Int32) (x6 : Int32) (x7 : Int32) (x8 : Int32) (M : ps_M) : ok_L_clerks_320 rec301 okr301 (n + 1) x1 x2 x3 x4 x5 x6 x7 x8 M = ((ok_X5_count (2 : Int32) M) ∧ (((fv_X5_count (2 : Int32) M).1 ≤ x8 → ((ok_X5_station x5 (4 : Int32) ((fv_X5_count (2 : Int32) M).2)) ∧ (((fv_X5_station x5 (4 : Int32) ((fv_X5_count (2 : Int32) M).2)) = x6 → ((ok_X5_station x5 (5 : Int32) ((fv_X5_count (2 : Int32) M).2)) ∧ (((fv_X5_station x5 (5 : Int32) ((fv_X5_count (2 : Int32) M).2)) = x7 → (okr301 x1 x2 x3 (x4 + x6) (x5 + (1 : Int32)) ((fv_X5_count (2 : Int32) M).2))) ∧ (¬ ((fv_X5_station x5 (5 : Int32) ((fv_X5_count (2 : Int32) M).2)) = x7) → True)))) ∧ (¬ ((fv_X5_station x5 (4 : Int32) ((fv_X5_count (2 : Int32) M).2)) = x6) → True)))) ∧ (¬ ((fv_X5_count (2 : Int32) M).1 ≤ x8) → ((ok_X5_clerk x8 (2 : Int32) ((fv_X5_count (2 : Int32) M).2)) ∧ (((fv_X5_clerk x8 (2 : Int32) ((fv_X5_count (2 : Int32) M).2)) = x5 → (ok_L_clerks_349 (fun a1 a2 a3 a4 a5 a6 a7 a8 M => fv_L_clerks_320 rec301 n a1 a2 a3 a4 a5 a6 a7 a8 M) (fun a1 a2 a3 a4 a5 a6 a7 a8 M => ok_L_clerks_320 rec301 okr301 n a1 a2 a3 a4 a5 a6 a7 a8 M) x1 x2 x3 x4 x5 x7 x8 (1 : Int32) x6 ((fv_X5_count (2 : Int32) M).2))) ∧ (¬ ((fv_X5_clerk x8 (2 : Int32) ((fv_X5_count (2 : Int32) M).2)) = x5) → (ok_L_clerks_349 (fun a1 a2 a3 a4 a5 a6 a7 a8 M => fv_L_clerks_320 rec301 n a1 a2 a3 a4 a5 a6 a7 a8 M) (fun a1 a2 a3 a4 a5 a6 a7 a8 M => ok_L_clerks_320 rec301 okr301 n a1 a2 a3 a4 a5 a6 a7 a8 M) x1 x2 x3 x4 x5 x7 x8 (0 : Int32) x6 ((fv_X5_count (2 : Int32) M).2)))))))) := rfl
set_option maxRecDepth 100000 in
set_option maxHeartbeats 4000000 in
theorem bw_L_clerks_320 {E : ps_E} {X : ps_X (Int32 × ps_M)} (C : ps_C (ps_Yc E) X cL_clerks RL (some .boolean) 4 86 9) (RT : ps_RI (ps_Yc E) X cL_clerks .boolean) (rec301 : Int32 → Int32 → Int32 → Int32 → Int32 → ps_M → Int32 × ps_M) (okr301 : Int32 → Int32 → Int32 → Int32 → Int32 → ps_M → Prop) (hr301 : ∀ (x1 : Int32) (x2 : Int32) (x3 : Int32) (x4 : Int32) (x5 : Int32)  (M : ps_M), okr301 x1 x2 x3 x4 x5 M → ps_G (ps_Yc E) X (rec301 x1 x2 x3 x4 x5 M) 301 [(0, .ref (ps_ad E 0)), (1, .int x1), (2, .int x2), (3, .int x3), (4, .int x4), (5, .int x5)] [] M) : ∀ (n : Nat) (x1 : Int32) (x2 : Int32) (x3 : Int32) (x4 : Int32) (x5 : Int32) (x6 : Int32) (x7 : Int32) (x8 : Int32) (M : ps_M), ok_L_clerks_320 rec301 okr301 n x1 x2 x3 x4 x5 x6 x7 x8 M → ps_G (ps_Yc E) X (fv_L_clerks_320 rec301 n x1 x2 x3 x4 x5 x6 x7 x8 M) 320 [(0, .ref (ps_ad E 0)), (1, .int x1), (2, .int x2), (3, .int x3), (4, .int x4), (5, .int x5), (6, .int x6), (7, .int x7), (8, .int x8)] [] M := by
  intro n
  induction n with
  | zero => intro x1 x2 x3 x4 x5 x6 x7 x8 M h; exact h.elim
  | succ n ih =>
    intro x1 x2 x3 x4 x5 x6 x7 x8 M hk
    rw [fv_L_clerks_320_s]
    rw [ok_L_clerks_320_s] at hk
    refine gw_iload C 322 dL_clerks_320 8 rfl rfl ?_
    refine gw_aload_n C 323 dL_clerks_322 0 rfl rfl ?_
    refine gw_iconst C 324 dL_clerks_323 (v := 2) (by decide) rfl ?_
    refine gw_cVi C 327 dL_clerks_324 rfl yv_X5_count lk_L_13 [.int (2 : Int32)] [.int x8] rfl (ct_X5_count (E := E) (l := ps_l X) (2 : Int32) M hk.1) rc_P rfl (Nat.le_of_ble_eq_true rfl) (Nat.le_of_ble_eq_true rfl) (Nat.le_of_ble_eq_true rfl) ?_
    refine gw_ic_ge C 386 330 dL_clerks_327 (by decide) rfl (fun c327 => ?_) (fun c327 => ?_)
    · refine gw_iload C 388 dL_clerks_386 4 rfl rfl ?_
      refine gw_iload C 390 dL_clerks_388 6 rfl rfl ?_
      refine gw_iadd C 391 dL_clerks_390 rfl ?_
      refine gw_istore C 393 dL_clerks_391 rfl [(0, .ref (ps_ad E 0)), (1, .int x1), (2, .int x2), (3, .int x3), (4, .int (x4 + x6)), (5, .int x5), (6, .int x6), (7, .int x7), (8, .int x8)] [1, 2, 3, 4, 0, 5, 6, 7, 8] (by decide) rfl ?_
      refine gw_aload_n C 394 dL_clerks_393 0 rfl rfl ?_
      refine gw_iload C 396 dL_clerks_394 5 rfl rfl ?_
      refine gw_iconst C 397 dL_clerks_396 (v := 4) (by decide) rfl ?_
      refine gw_cVp C 400 dL_clerks_397 rfl yv_X5_station lk_L_19 [.int x5, .int (4 : Int32)] [] rfl (ct_X5_station (E := E) (l := ps_l X) x5 (4 : Int32) ((fv_X5_count (2 : Int32) M).2) (hk.2.1 c327).1) rc_P rfl (Nat.le_of_ble_eq_true rfl) (Nat.le_of_ble_eq_true rfl) (Nat.le_of_ble_eq_true rfl) ?_
      refine gw_iload C 402 dL_clerks_400 6 rfl rfl ?_
      refine gw_ic_ne C 417 405 dL_clerks_402 (by decide) rfl (fun c402 => ?_) (fun c402 => ?_)
      · refine gw_aload_n C 406 dL_clerks_405 0 rfl rfl ?_
        refine gw_iload C 408 dL_clerks_406 5 rfl rfl ?_
        refine gw_iconst C 409 dL_clerks_408 (v := 5) (by decide) rfl ?_
        refine gw_cVp C 412 dL_clerks_409 rfl yv_X5_station lk_L_19 [.int x5, .int (5 : Int32)] [] rfl (ct_X5_station (E := E) (l := ps_l X) x5 (5 : Int32) ((fv_X5_count (2 : Int32) M).2) ((hk.2.1 c327).2.1 c402).1) rc_P rfl (Nat.le_of_ble_eq_true rfl) (Nat.le_of_ble_eq_true rfl) (Nat.le_of_ble_eq_true rfl) ?_
        refine gw_iload C 414 dL_clerks_412 7 rfl rfl ?_
        refine gw_ic_eq C 419 417 dL_clerks_414 (by decide) rfl (fun c414 => ?_) (fun c414 => ?_)
        · refine gw_iinc C 422 dL_clerks_419 rfl (y := 1) (by decide) rfl 5 rfl [(0, .ref (ps_ad E 0)), (1, .int x1), (2, .int x2), (3, .int x3), (4, .int (x4 + x6)), (5, .int (x5 + (1 : Int32))), (6, .int x6), (7, .int x7), (8, .int x8)] [1, 2, 3, 4, 5, 0, 6, 7, 8] (by decide) rfl ?_
          refine gw_goto C 301 dL_clerks_422 (by decide) ?_
          refine gw_sub C [(0, .ref (ps_ad E 0)), (1, .int x1), (2, .int x2), (3, .int x3), (4, .int (x4 + x6)), (5, .int (x5 + (1 : Int32)))] [0, 1, 2, 3, 4, 5] rfl ?_
          exact hr301 x1 x2 x3 (x4 + x6) (x5 + (1 : Int32)) ((fv_X5_count (2 : Int32) M).2) (((hk.2.1 c327).2.1 c402).2.1 c414)
        · refine gw_iconst C 418 dL_clerks_417 (v := 0) (by decide) rfl ?_
          exact RT _ _ _ _ dL_clerks_418 ps_nb0
      · refine gw_iconst C 418 dL_clerks_417 (v := 0) (by decide) rfl ?_
        exact RT _ _ _ _ dL_clerks_418 ps_nb0
    · refine gw_iload C 332 dL_clerks_330 6 rfl rfl ?_
      refine gw_aload_n C 333 dL_clerks_332 0 rfl rfl ?_
      refine gw_iload C 335 dL_clerks_333 8 rfl rfl ?_
      refine gw_iconst C 336 dL_clerks_335 (v := 2) (by decide) rfl ?_
      refine gw_cVp C 339 dL_clerks_336 rfl yv_X5_clerk lk_L_29 [.int x8, .int (2 : Int32)] [.int x6] rfl (ct_X5_clerk (E := E) (l := ps_l X) x8 (2 : Int32) ((fv_X5_count (2 : Int32) M).2) (hk.2.2 c327).1) rc_P rfl (Nat.le_of_ble_eq_true rfl) (Nat.le_of_ble_eq_true rfl) (Nat.le_of_ble_eq_true rfl) ?_
      refine gw_iload C 341 dL_clerks_339 5 rfl rfl ?_
      refine gw_ic_ne C 348 344 dL_clerks_341 (by decide) rfl (fun c341 => ?_) (fun c341 => ?_)
      · refine gw_iconst C 345 dL_clerks_344 (v := 1) (by decide) rfl ?_
        refine gw_goto C 349 dL_clerks_345 (by decide) ?_
        refine gw_sub C [(0, .ref (ps_ad E 0)), (1, .int x1), (2, .int x2), (3, .int x3), (4, .int x4), (5, .int x5), (7, .int x7), (8, .int x8)] [0, 1, 2, 3, 4, 5, 7, 8] rfl ?_
        exact bw_L_clerks_349 C RT _ _ (fun a1 a2 a3 a4 a5 a6 a7 a8  M h => ih a1 a2 a3 a4 a5 a6 a7 a8  M h) x1 x2 x3 x4 x5 x7 x8 (1 : Int32) x6 ((fv_X5_count (2 : Int32) M).2) ((hk.2.2 c327).2.1 c341)
      · refine gw_iconst C 349 dL_clerks_348 (v := 0) (by decide) rfl ?_
        refine gw_sub C [(0, .ref (ps_ad E 0)), (1, .int x1), (2, .int x2), (3, .int x3), (4, .int x4), (5, .int x5), (7, .int x7), (8, .int x8)] [0, 1, 2, 3, 4, 5, 7, 8] rfl ?_
        exact bw_L_clerks_349 C RT _ _ (fun a1 a2 a3 a4 a5 a6 a7 a8  M h => ih a1 a2 a3 a4 a5 a6 a7 a8  M h) x1 x2 x3 x4 x5 x7 x8 (0 : Int32) x6 ((fv_X5_count (2 : Int32) M).2) ((hk.2.2 c327).2.2 c341)
def fv_L_clerks_301 : Nat → Int32 → Int32 → Int32 → Int32 → Int32 → ps_M → Int32 × ps_M
  | 0, _, _, _, _, _, M => (0, M)
  | n + 1, x1, x2, x3, x4, x5, M => if (fv_X5_count (1 : Int32) M).1 ≤ x5 then (if (fv_X5_count (3 : Int32) ((fv_X5_count (1 : Int32) M).2)).1 = x1 then (if x4 = x1 then (if (fv_X5_count (4 : Int32) ((fv_X5_count (3 : Int32) ((fv_X5_count (1 : Int32) M).2)).2)).1 = x2 then (if (fv_X5_free x2 ((fv_X5_count (4 : Int32) ((fv_X5_count (3 : Int32) ((fv_X5_count (1 : Int32) M).2)).2)).2)) = (-5 : Int32) then (if (fv_X5_count (13 : Int32) ((fv_X5_count (4 : Int32) ((fv_X5_count (3 : Int32) ((fv_X5_count (1 : Int32) M).2)).2)).2)).1 = x3 then (((1 : Int32), (fv_X5_count (13 : Int32) ((fv_X5_count (4 : Int32) ((fv_X5_count (3 : Int32) ((fv_X5_count (1 : Int32) M).2)).2)).2)).2)) else (((0 : Int32), (fv_X5_count (13 : Int32) ((fv_X5_count (4 : Int32) ((fv_X5_count (3 : Int32) ((fv_X5_count (1 : Int32) M).2)).2)).2)).2))) else (((0 : Int32), (fv_X5_count (4 : Int32) ((fv_X5_count (3 : Int32) ((fv_X5_count (1 : Int32) M).2)).2)).2))) else (((0 : Int32), (fv_X5_count (4 : Int32) ((fv_X5_count (3 : Int32) ((fv_X5_count (1 : Int32) M).2)).2)).2))) else (((0 : Int32), (fv_X5_count (3 : Int32) ((fv_X5_count (1 : Int32) M).2)).2))) else (((0 : Int32), (fv_X5_count (3 : Int32) ((fv_X5_count (1 : Int32) M).2)).2))) else (fv_L_clerks_320 (fun a1 a2 a3 a4 a5 M => fv_L_clerks_301 n a1 a2 a3 a4 a5 M) ps_FU x1 x2 x3 x4 x5 (0 : Int32) (0 : Int32) (0 : Int32) ((fv_X5_count (1 : Int32) M).2))
theorem fv_L_clerks_301_s (n : Nat) (x1 : Int32) (x2 : Int32) (x3 : Int32) (x4 : Int32) (x5 : Int32) (M : ps_M) : fv_L_clerks_301 (n + 1) x1 x2 x3 x4 x5 M = (if (fv_X5_count (1 : Int32) M).1 ≤ x5 then (if (fv_X5_count (3 : Int32) ((fv_X5_count (1 : Int32) M).2)).1 = x1 then (if x4 = x1 then (if (fv_X5_count (4 : Int32) ((fv_X5_count (3 : Int32) ((fv_X5_count (1 : Int32) M).2)).2)).1 = x2 then (if (fv_X5_free x2 ((fv_X5_count (4 : Int32) ((fv_X5_count (3 : Int32) ((fv_X5_count (1 : Int32) M).2)).2)).2)) = (-5 : Int32) then (if (fv_X5_count (13 : Int32) ((fv_X5_count (4 : Int32) ((fv_X5_count (3 : Int32) ((fv_X5_count (1 : Int32) M).2)).2)).2)).1 = x3 then (((1 : Int32), (fv_X5_count (13 : Int32) ((fv_X5_count (4 : Int32) ((fv_X5_count (3 : Int32) ((fv_X5_count (1 : Int32) M).2)).2)).2)).2)) else (((0 : Int32), (fv_X5_count (13 : Int32) ((fv_X5_count (4 : Int32) ((fv_X5_count (3 : Int32) ((fv_X5_count (1 : Int32) M).2)).2)).2)).2))) else (((0 : Int32), (fv_X5_count (4 : Int32) ((fv_X5_count (3 : Int32) ((fv_X5_count (1 : Int32) M).2)).2)).2))) else (((0 : Int32), (fv_X5_count (4 : Int32) ((fv_X5_count (3 : Int32) ((fv_X5_count (1 : Int32) M).2)).2)).2))) else (((0 : Int32), (fv_X5_count (3 : Int32) ((fv_X5_count (1 : Int32) M).2)).2))) else (((0 : Int32), (fv_X5_count (3 : Int32) ((fv_X5_count (1 : Int32) M).2)).2))) else (fv_L_clerks_320 (fun a1 a2 a3 a4 a5 M => fv_L_clerks_301 n a1 a2 a3 a4 a5 M) ps_FU x1 x2 x3 x4 x5 (0 : Int32) (0 : Int32) (0 : Int32) ((fv_X5_count (1 : Int32) M).2))) := rfl
def ok_L_clerks_301 : Nat → Int32 → Int32 → Int32 → Int32 → Int32 → ps_M → Prop
  | 0, _, _, _, _, _, _ => False
  | n + 1, x1, x2, x3, x4, x5, M => (ok_X5_count (1 : Int32) M) ∧ (((fv_X5_count (1 : Int32) M).1 ≤ x5 → ((ok_X5_count (3 : Int32) ((fv_X5_count (1 : Int32) M).2)) ∧ (((fv_X5_count (3 : Int32) ((fv_X5_count (1 : Int32) M).2)).1 = x1 → ((x4 = x1 → ((ok_X5_count (4 : Int32) ((fv_X5_count (3 : Int32) ((fv_X5_count (1 : Int32) M).2)).2)) ∧ (((fv_X5_count (4 : Int32) ((fv_X5_count (3 : Int32) ((fv_X5_count (1 : Int32) M).2)).2)).1 = x2 → ((ok_X5_free x2 ((fv_X5_count (4 : Int32) ((fv_X5_count (3 : Int32) ((fv_X5_count (1 : Int32) M).2)).2)).2)) ∧ (((fv_X5_free x2 ((fv_X5_count (4 : Int32) ((fv_X5_count (3 : Int32) ((fv_X5_count (1 : Int32) M).2)).2)).2)) = (-5 : Int32) → ((ok_X5_count (13 : Int32) ((fv_X5_count (4 : Int32) ((fv_X5_count (3 : Int32) ((fv_X5_count (1 : Int32) M).2)).2)).2)) ∧ True)) ∧ (¬ ((fv_X5_free x2 ((fv_X5_count (4 : Int32) ((fv_X5_count (3 : Int32) ((fv_X5_count (1 : Int32) M).2)).2)).2)) = (-5 : Int32)) → True)))) ∧ (¬ ((fv_X5_count (4 : Int32) ((fv_X5_count (3 : Int32) ((fv_X5_count (1 : Int32) M).2)).2)).1 = x2) → True)))) ∧ (¬ (x4 = x1) → True))) ∧ (¬ ((fv_X5_count (3 : Int32) ((fv_X5_count (1 : Int32) M).2)).1 = x1) → True)))) ∧ (¬ ((fv_X5_count (1 : Int32) M).1 ≤ x5) → (ok_L_clerks_320 (fun a1 a2 a3 a4 a5 M => fv_L_clerks_301 n a1 a2 a3 a4 a5 M) (fun a1 a2 a3 a4 a5 M => ok_L_clerks_301 n a1 a2 a3 a4 a5 M) ps_FU x1 x2 x3 x4 x5 (0 : Int32) (0 : Int32) (0 : Int32) ((fv_X5_count (1 : Int32) M).2))))
theorem ok_L_clerks_301_s (n : Nat) (x1 : Int32) (x2 : Int32) (x3 : Int32) (x4 : Int32) (x5 : Int32) (M : ps_M) : ok_L_clerks_301 (n + 1) x1 x2 x3 x4 x5 M = ((ok_X5_count (1 : Int32) M) ∧ (((fv_X5_count (1 : Int32) M).1 ≤ x5 → ((ok_X5_count (3 : Int32) ((fv_X5_count (1 : Int32) M).2)) ∧ (((fv_X5_count (3 : Int32) ((fv_X5_count (1 : Int32) M).2)).1 = x1 → ((x4 = x1 → ((ok_X5_count (4 : Int32) ((fv_X5_count (3 : Int32) ((fv_X5_count (1 : Int32) M).2)).2)) ∧ (((fv_X5_count (4 : Int32) ((fv_X5_count (3 : Int32) ((fv_X5_count (1 : Int32) M).2)).2)).1 = x2 → ((ok_X5_free x2 ((fv_X5_count (4 : Int32) ((fv_X5_count (3 : Int32) ((fv_X5_count (1 : Int32) M).2)).2)).2)) ∧ (((fv_X5_free x2 ((fv_X5_count (4 : Int32) ((fv_X5_count (3 : Int32) ((fv_X5_count (1 : Int32) M).2)).2)).2)) = (-5 : Int32) → ((ok_X5_count (13 : Int32) ((fv_X5_count (4 : Int32) ((fv_X5_count (3 : Int32) ((fv_X5_count (1 : Int32) M).2)).2)).2)) ∧ True)) ∧ (¬ ((fv_X5_free x2 ((fv_X5_count (4 : Int32) ((fv_X5_count (3 : Int32) ((fv_X5_count (1 : Int32) M).2)).2)).2)) = (-5 : Int32)) → True)))) ∧ (¬ ((fv_X5_count (4 : Int32) ((fv_X5_count (3 : Int32) ((fv_X5_count (1 : Int32) M).2)).2)).1 = x2) → True)))) ∧ (¬ (x4 = x1) → True))) ∧ (¬ ((fv_X5_count (3 : Int32) ((fv_X5_count (1 : Int32) M).2)).1 = x1) → True)))) ∧ (¬ ((fv_X5_count (1 : Int32) M).1 ≤ x5) → (ok_L_clerks_320 (fun a1 a2 a3 a4 a5 M => fv_L_clerks_301 n a1 a2 a3 a4 a5 M) (fun a1 a2 a3 a4 a5 M => ok_L_clerks_301 n a1 a2 a3 a4 a5 M) ps_FU x1 x2 x3 x4 x5 (0 : Int32) (0 : Int32) (0 : Int32) ((fv_X5_count (1 : Int32) M).2))))) := rfl
set_option maxRecDepth 100000 in
set_option maxHeartbeats 4000000 in
theorem bw_L_clerks_301 {E : ps_E} {X : ps_X (Int32 × ps_M)} (C : ps_C (ps_Yc E) X cL_clerks RL (some .boolean) 4 86 9) (RT : ps_RI (ps_Yc E) X cL_clerks .boolean) : ∀ (n : Nat) (x1 : Int32) (x2 : Int32) (x3 : Int32) (x4 : Int32) (x5 : Int32) (M : ps_M), ok_L_clerks_301 n x1 x2 x3 x4 x5 M → ps_G (ps_Yc E) X (fv_L_clerks_301 n x1 x2 x3 x4 x5 M) 301 [(0, .ref (ps_ad E 0)), (1, .int x1), (2, .int x2), (3, .int x3), (4, .int x4), (5, .int x5)] [] M := by
  intro n
  induction n with
  | zero => intro x1 x2 x3 x4 x5 M h; exact h.elim
  | succ n ih =>
    intro x1 x2 x3 x4 x5 M hk
    rw [fv_L_clerks_301_s]
    rw [ok_L_clerks_301_s] at hk
    refine gw_iload C 303 dL_clerks_301 5 rfl rfl ?_
    refine gw_aload_n C 304 dL_clerks_303 0 rfl rfl ?_
    refine gw_iconst C 305 dL_clerks_304 (v := 1) (by decide) rfl ?_
    refine gw_cVi C 308 dL_clerks_305 rfl yv_X5_count lk_L_13 [.int (1 : Int32)] [.int x5] rfl (ct_X5_count (E := E) (l := ps_l X) (1 : Int32) M hk.1) rc_P rfl (Nat.le_of_ble_eq_true rfl) (Nat.le_of_ble_eq_true rfl) (Nat.le_of_ble_eq_true rfl) ?_
    refine gw_ic_ge C 425 311 dL_clerks_308 (by decide) rfl (fun c308 => ?_) (fun c308 => ?_)
    · refine gw_aload_n C 426 dL_clerks_425 0 rfl rfl ?_
      refine gw_iconst C 427 dL_clerks_426 (v := 3) (by decide) rfl ?_
      refine gw_cVi C 430 dL_clerks_427 rfl yv_X5_count lk_L_13 [.int (3 : Int32)] [] rfl (ct_X5_count (E := E) (l := ps_l X) (3 : Int32) ((fv_X5_count (1 : Int32) M).2) (hk.2.1 c308).1) rc_P rfl (Nat.le_of_ble_eq_true rfl) (Nat.le_of_ble_eq_true rfl) (Nat.le_of_ble_eq_true rfl) ?_
      refine gw_iload_n C 431 dL_clerks_430 1 rfl rfl ?_
      refine gw_ic_ne C 473 434 dL_clerks_431 (by decide) rfl (fun c431 => ?_) (fun c431 => ?_)
      · refine gw_iload C 436 dL_clerks_434 4 rfl rfl ?_
        refine gw_iload_n C 437 dL_clerks_436 1 rfl rfl ?_
        refine gw_ic_ne C 473 440 dL_clerks_437 (by decide) rfl (fun c437 => ?_) (fun c437 => ?_)
        · refine gw_aload_n C 441 dL_clerks_440 0 rfl rfl ?_
          refine gw_iconst C 442 dL_clerks_441 (v := 4) (by decide) rfl ?_
          refine gw_cVi C 445 dL_clerks_442 rfl yv_X5_count lk_L_13 [.int (4 : Int32)] [] rfl (ct_X5_count (E := E) (l := ps_l X) (4 : Int32) ((fv_X5_count (3 : Int32) ((fv_X5_count (1 : Int32) M).2)).2) (((hk.2.1 c308).2.1 c431).1 c437).1) rc_P rfl (Nat.le_of_ble_eq_true rfl) (Nat.le_of_ble_eq_true rfl) (Nat.le_of_ble_eq_true rfl) ?_
          refine gw_iload_n C 446 dL_clerks_445 2 rfl rfl ?_
          refine gw_ic_ne C 473 449 dL_clerks_446 (by decide) rfl (fun c446 => ?_) (fun c446 => ?_)
          · refine gw_aload_n C 450 dL_clerks_449 0 rfl rfl ?_
            refine gw_iload_n C 451 dL_clerks_450 2 rfl rfl ?_
            refine gw_cVp C 454 dL_clerks_451 rfl yv_X5_free lk_L_75 [.int x2] [] rfl (ct_X5_free (E := E) (l := ps_l X) x2 ((fv_X5_count (4 : Int32) ((fv_X5_count (3 : Int32) ((fv_X5_count (1 : Int32) M).2)).2)).2) ((((hk.2.1 c308).2.1 c431).1 c437).2.1 c446).1) rc_P rfl (Nat.le_of_ble_eq_true rfl) (Nat.le_of_ble_eq_true rfl) (Nat.le_of_ble_eq_true rfl) ?_
            refine gw_bipush C 456 dL_clerks_454 (v := (-5)) (by decide) rfl ?_
            refine gw_ic_ne C 473 459 dL_clerks_456 (by decide) rfl (fun c456 => ?_) (fun c456 => ?_)
            · refine gw_aload_n C 460 dL_clerks_459 0 rfl rfl ?_
              refine gw_bipush C 462 dL_clerks_460 (v := 13) (by decide) rfl ?_
              refine gw_cVi C 465 dL_clerks_462 rfl yv_X5_count lk_L_13 [.int (13 : Int32)] [] rfl (ct_X5_count (E := E) (l := ps_l X) (13 : Int32) ((fv_X5_count (4 : Int32) ((fv_X5_count (3 : Int32) ((fv_X5_count (1 : Int32) M).2)).2)).2) (((((hk.2.1 c308).2.1 c431).1 c437).2.1 c446).2.1 c456).1) rc_P rfl (Nat.le_of_ble_eq_true rfl) (Nat.le_of_ble_eq_true rfl) (Nat.le_of_ble_eq_true rfl) ?_
              refine gw_iload_n C 466 dL_clerks_465 3 rfl rfl ?_
              refine gw_ic_ne C 473 469 dL_clerks_466 (by decide) rfl (fun c466 => ?_) (fun c466 => ?_)
              · refine gw_iconst C 470 dL_clerks_469 (v := 1) (by decide) rfl ?_
                refine gw_goto C 474 dL_clerks_470 (by decide) ?_
                exact RT _ _ _ _ dL_clerks_474 ps_nb1
              · refine gw_iconst C 474 dL_clerks_473 (v := 0) (by decide) rfl ?_
                exact RT _ _ _ _ dL_clerks_474 ps_nb0
            · refine gw_iconst C 474 dL_clerks_473 (v := 0) (by decide) rfl ?_
              exact RT _ _ _ _ dL_clerks_474 ps_nb0
          · refine gw_iconst C 474 dL_clerks_473 (v := 0) (by decide) rfl ?_
            exact RT _ _ _ _ dL_clerks_474 ps_nb0
        · refine gw_iconst C 474 dL_clerks_473 (v := 0) (by decide) rfl ?_
          exact RT _ _ _ _ dL_clerks_474 ps_nb0
      · refine gw_iconst C 474 dL_clerks_473 (v := 0) (by decide) rfl ?_
        exact RT _ _ _ _ dL_clerks_474 ps_nb0
    · refine gw_iconst C 312 dL_clerks_311 (v := 0) (by decide) rfl ?_
      refine gw_istore C 314 dL_clerks_312 rfl [(0, .ref (ps_ad E 0)), (1, .int x1), (2, .int x2), (3, .int x3), (4, .int x4), (5, .int x5), (6, .int (0 : Int32))] [1, 2, 3, 4, 5, 6, 0] (by decide) rfl ?_
      refine gw_iconst C 315 dL_clerks_314 (v := 0) (by decide) rfl ?_
      refine gw_istore C 317 dL_clerks_315 rfl [(0, .ref (ps_ad E 0)), (1, .int x1), (2, .int x2), (3, .int x3), (4, .int x4), (5, .int x5), (6, .int (0 : Int32)), (7, .int (0 : Int32))] [1, 2, 3, 4, 5, 6, 7, 0] (by decide) rfl ?_
      refine gw_iconst C 318 dL_clerks_317 (v := 0) (by decide) rfl ?_
      refine gw_istore C 320 dL_clerks_318 rfl [(0, .ref (ps_ad E 0)), (1, .int x1), (2, .int x2), (3, .int x3), (4, .int x4), (5, .int x5), (6, .int (0 : Int32)), (7, .int (0 : Int32)), (8, .int (0 : Int32))] [1, 2, 3, 4, 5, 6, 7, 8, 0] (by decide) rfl ?_
      exact bw_L_clerks_320 C RT _ _ (fun a1 a2 a3 a4 a5  M h => ih a1 a2 a3 a4 a5  M h) ps_FU x1 x2 x3 x4 x5 (0 : Int32) (0 : Int32) (0 : Int32) ((fv_X5_count (1 : Int32) M).2) (hk.2.2 c308)
def fv_L_clerks_220 : Nat → Int32 → Int32 → Int32 → Int32 → ps_M → Int32 × ps_M
  | 0, _, _, _, _, M => (0, M)
  | n + 1, x1, x2, x3, x4, M => if x2 ≤ (x4 + (1 : Int32)) then (fv_L_clerks_301 ps_FU x1 x2 x3 (0 : Int32) (0 : Int32) M) else (if (fv_X5_clerk (fv_X5_free (x4 + (1 : Int32)) M) (4 : Int32) M) < (fv_X5_clerk (fv_X5_free x4 M) (4 : Int32) M) then (((0 : Int32), M)) else (if (fv_X5_clerk (fv_X5_free x4 M) (4 : Int32) M) = (fv_X5_clerk (fv_X5_free (x4 + (1 : Int32)) M) (4 : Int32) M) then (if (fv_X5_free x4 M) ≤ (fv_X5_free (x4 + (1 : Int32)) M) then (fv_L_clerks_220 n x1 x2 x3 (x4 + (1 : Int32)) M) else (((0 : Int32), M))) else (fv_L_clerks_220 n x1 x2 x3 (x4 + (1 : Int32)) M)))
theorem fv_L_clerks_220_s (n : Nat) (x1 : Int32) (x2 : Int32) (x3 : Int32) (x4 : Int32) (M : ps_M) : fv_L_clerks_220 (n + 1) x1 x2 x3 x4 M = (if x2 ≤ (x4 + (1 : Int32)) then (fv_L_clerks_301 ps_FU x1 x2 x3 (0 : Int32) (0 : Int32) M) else (if (fv_X5_clerk (fv_X5_free (x4 + (1 : Int32)) M) (4 : Int32) M) < (fv_X5_clerk (fv_X5_free x4 M) (4 : Int32) M) then (((0 : Int32), M)) else (if (fv_X5_clerk (fv_X5_free x4 M) (4 : Int32) M) = (fv_X5_clerk (fv_X5_free (x4 + (1 : Int32)) M) (4 : Int32) M) then (if (fv_X5_free x4 M) ≤ (fv_X5_free (x4 + (1 : Int32)) M) then (fv_L_clerks_220 n x1 x2 x3 (x4 + (1 : Int32)) M) else (((0 : Int32), M))) else (fv_L_clerks_220 n x1 x2 x3 (x4 + (1 : Int32)) M)))) := rfl
def ok_L_clerks_220 : Nat → Int32 → Int32 → Int32 → Int32 → ps_M → Prop
  | 0, _, _, _, _, _ => False
  | n + 1, x1, x2, x3, x4, M => (x2 ≤ (x4 + (1 : Int32)) → (ok_L_clerks_301 ps_FU x1 x2 x3 (0 : Int32) (0 : Int32) M)) ∧ (¬ (x2 ≤ (x4 + (1 : Int32))) → ((ok_X5_free x4 M) ∧ ((ok_X5_free (x4 + (1 : Int32)) M) ∧ ((ok_X5_clerk (fv_X5_free x4 M) (4 : Int32) M) ∧ ((ok_X5_clerk (fv_X5_free (x4 + (1 : Int32)) M) (4 : Int32) M) ∧ (((fv_X5_clerk (fv_X5_free (x4 + (1 : Int32)) M) (4 : Int32) M) < (fv_X5_clerk (fv_X5_free x4 M) (4 : Int32) M) → True) ∧ (¬ ((fv_X5_clerk (fv_X5_free (x4 + (1 : Int32)) M) (4 : Int32) M) < (fv_X5_clerk (fv_X5_free x4 M) (4 : Int32) M)) → ((ok_X5_clerk (fv_X5_free x4 M) (4 : Int32) M) ∧ ((ok_X5_clerk (fv_X5_free (x4 + (1 : Int32)) M) (4 : Int32) M) ∧ (((fv_X5_clerk (fv_X5_free x4 M) (4 : Int32) M) = (fv_X5_clerk (fv_X5_free (x4 + (1 : Int32)) M) (4 : Int32) M) → (((fv_X5_free x4 M) ≤ (fv_X5_free (x4 + (1 : Int32)) M) → (ok_L_clerks_220 n x1 x2 x3 (x4 + (1 : Int32)) M)) ∧ (¬ ((fv_X5_free x4 M) ≤ (fv_X5_free (x4 + (1 : Int32)) M)) → True))) ∧ (¬ ((fv_X5_clerk (fv_X5_free x4 M) (4 : Int32) M) = (fv_X5_clerk (fv_X5_free (x4 + (1 : Int32)) M) (4 : Int32) M)) → (ok_L_clerks_220 n x1 x2 x3 (x4 + (1 : Int32)) M))))))))))))
theorem ok_L_clerks_220_s (n : Nat) (x1 : Int32) (x2 : Int32) (x3 : Int32) (x4 : Int32) (M : ps_M) : ok_L_clerks_220 (n + 1) x1 x2 x3 x4 M = ((x2 ≤ (x4 + (1 : Int32)) → (ok_L_clerks_301 ps_FU x1 x2 x3 (0 : Int32) (0 : Int32) M)) ∧ (¬ (x2 ≤ (x4 + (1 : Int32))) → ((ok_X5_free x4 M) ∧ ((ok_X5_free (x4 + (1 : Int32)) M) ∧ ((ok_X5_clerk (fv_X5_free x4 M) (4 : Int32) M) ∧ ((ok_X5_clerk (fv_X5_free (x4 + (1 : Int32)) M) (4 : Int32) M) ∧ (((fv_X5_clerk (fv_X5_free (x4 + (1 : Int32)) M) (4 : Int32) M) < (fv_X5_clerk (fv_X5_free x4 M) (4 : Int32) M) → True) ∧ (¬ ((fv_X5_clerk (fv_X5_free (x4 + (1 : Int32)) M) (4 : Int32) M) < (fv_X5_clerk (fv_X5_free x4 M) (4 : Int32) M)) → ((ok_X5_clerk (fv_X5_free x4 M) (4 : Int32) M) ∧ ((ok_X5_clerk (fv_X5_free (x4 + (1 : Int32)) M) (4 : Int32) M) ∧ (((fv_X5_clerk (fv_X5_free x4 M) (4 : Int32) M) = (fv_X5_clerk (fv_X5_free (x4 + (1 : Int32)) M) (4 : Int32) M) → (((fv_X5_free x4 M) ≤ (fv_X5_free (x4 + (1 : Int32)) M) → (ok_L_clerks_220 n x1 x2 x3 (x4 + (1 : Int32)) M)) ∧ (¬ ((fv_X5_free x4 M) ≤ (fv_X5_free (x4 + (1 : Int32)) M)) → True))) ∧ (¬ ((fv_X5_clerk (fv_X5_free x4 M) (4 : Int32) M) = (fv_X5_clerk (fv_X5_free (x4 + (1 : Int32)) M) (4 : Int32) M)) → (ok_L_clerks_220 n x1 x2 x3 (x4 + (1 : Int32)) M))))))))))))) := rfl
set_option maxRecDepth 100000 in
set_option maxHeartbeats 4000000 in
theorem bw_L_clerks_220 {E : ps_E} {X : ps_X (Int32 × ps_M)} (C : ps_C (ps_Yc E) X cL_clerks RL (some .boolean) 4 86 9) (RT : ps_RI (ps_Yc E) X cL_clerks .boolean) : ∀ (n : Nat) (x1 : Int32) (x2 : Int32) (x3 : Int32) (x4 : Int32) (M : ps_M), ok_L_clerks_220 n x1 x2 x3 x4 M → ps_G (ps_Yc E) X (fv_L_clerks_220 n x1 x2 x3 x4 M) 220 [(0, .ref (ps_ad E 0)), (1, .int x1), (2, .int x2), (3, .int x3), (4, .int x4)] [] M := by
  intro n
  induction n with
  | zero => intro x1 x2 x3 x4 M h; exact h.elim
  | succ n ih =>
    intro x1 x2 x3 x4 M hk
    rw [fv_L_clerks_220_s]
    rw [ok_L_clerks_220_s] at hk
    refine gw_iload C 222 dL_clerks_220 4 rfl rfl ?_
    refine gw_iconst C 223 dL_clerks_222 (v := 1) (by decide) rfl ?_
    refine gw_iadd C 224 dL_clerks_223 rfl ?_
    refine gw_iload_n C 225 dL_clerks_224 2 rfl rfl ?_
    refine gw_ic_ge C 295 228 dL_clerks_225 (by decide) rfl (fun c225 => ?_) (fun c225 => ?_)
    · refine gw_iconst C 296 dL_clerks_295 (v := 0) (by decide) rfl ?_
      refine gw_istore C 298 dL_clerks_296 rfl [(0, .ref (ps_ad E 0)), (1, .int x1), (2, .int x2), (3, .int x3), (4, .int (0 : Int32))] [1, 2, 3, 4, 0] (by decide) rfl ?_
      refine gw_iconst C 299 dL_clerks_298 (v := 0) (by decide) rfl ?_
      refine gw_istore C 301 dL_clerks_299 rfl [(0, .ref (ps_ad E 0)), (1, .int x1), (2, .int x2), (3, .int x3), (4, .int (0 : Int32)), (5, .int (0 : Int32))] [1, 2, 3, 4, 5, 0] (by decide) rfl ?_
      exact bw_L_clerks_301 C RT  ps_FU x1 x2 x3 (0 : Int32) (0 : Int32) M (hk.1 c225)
    · refine gw_aload_n C 229 dL_clerks_228 0 rfl rfl ?_
      refine gw_iload C 231 dL_clerks_229 4 rfl rfl ?_
      refine gw_cVp C 234 dL_clerks_231 rfl yv_X5_free lk_L_75 [.int x4] [] rfl (ct_X5_free (E := E) (l := ps_l X) x4 M (hk.2 c225).1) rc_P rfl (Nat.le_of_ble_eq_true rfl) (Nat.le_of_ble_eq_true rfl) (Nat.le_of_ble_eq_true rfl) ?_
      refine gw_istore C 236 dL_clerks_234 rfl [(0, .ref (ps_ad E 0)), (1, .int x1), (2, .int x2), (3, .int x3), (4, .int x4), (5, .int (fv_X5_free x4 M))] [1, 2, 3, 4, 5, 0] (by decide) rfl ?_
      refine gw_aload_n C 237 dL_clerks_236 0 rfl rfl ?_
      refine gw_iload C 239 dL_clerks_237 4 rfl rfl ?_
      refine gw_iconst C 240 dL_clerks_239 (v := 1) (by decide) rfl ?_
      refine gw_iadd C 241 dL_clerks_240 rfl ?_
      refine gw_cVp C 244 dL_clerks_241 rfl yv_X5_free lk_L_75 [.int (x4 + (1 : Int32))] [] rfl (ct_X5_free (E := E) (l := ps_l X) (x4 + (1 : Int32)) M (hk.2 c225).2.1) rc_P rfl (Nat.le_of_ble_eq_true rfl) (Nat.le_of_ble_eq_true rfl) (Nat.le_of_ble_eq_true rfl) ?_
      refine gw_istore C 246 dL_clerks_244 rfl [(0, .ref (ps_ad E 0)), (1, .int x1), (2, .int x2), (3, .int x3), (4, .int x4), (5, .int (fv_X5_free x4 M)), (6, .int (fv_X5_free (x4 + (1 : Int32)) M))] [1, 2, 3, 4, 5, 6, 0] (by decide) rfl ?_
      refine gw_aload_n C 247 dL_clerks_246 0 rfl rfl ?_
      refine gw_iload C 249 dL_clerks_247 5 rfl rfl ?_
      refine gw_iconst C 250 dL_clerks_249 (v := 4) (by decide) rfl ?_
      refine gw_cVp C 253 dL_clerks_250 rfl yv_X5_clerk lk_L_29 [.int (fv_X5_free x4 M), .int (4 : Int32)] [] rfl (ct_X5_clerk (E := E) (l := ps_l X) (fv_X5_free x4 M) (4 : Int32) M (hk.2 c225).2.2.1) rc_P rfl (Nat.le_of_ble_eq_true rfl) (Nat.le_of_ble_eq_true rfl) (Nat.le_of_ble_eq_true rfl) ?_
      refine gw_aload_n C 254 dL_clerks_253 0 rfl rfl ?_
      refine gw_iload C 256 dL_clerks_254 6 rfl rfl ?_
      refine gw_iconst C 257 dL_clerks_256 (v := 4) (by decide) rfl ?_
      refine gw_cVp C 260 dL_clerks_257 rfl yv_X5_clerk lk_L_29 [.int (fv_X5_free (x4 + (1 : Int32)) M), .int (4 : Int32)] [.int (fv_X5_clerk (fv_X5_free x4 M) (4 : Int32) M)] rfl (ct_X5_clerk (E := E) (l := ps_l X) (fv_X5_free (x4 + (1 : Int32)) M) (4 : Int32) M (hk.2 c225).2.2.2.1) rc_P rfl (Nat.le_of_ble_eq_true rfl) (Nat.le_of_ble_eq_true rfl) (Nat.le_of_ble_eq_true rfl) ?_
      refine gw_ic_gt C 287 263 dL_clerks_260 (by decide) rfl (fun c260 => ?_) (fun c260 => ?_)
      · refine gw_iconst C 288 dL_clerks_287 (v := 0) (by decide) rfl ?_
        exact RT _ _ _ _ dL_clerks_288 ps_nb0
      · refine gw_aload_n C 264 dL_clerks_263 0 rfl rfl ?_
        refine gw_iload C 266 dL_clerks_264 5 rfl rfl ?_
        refine gw_iconst C 267 dL_clerks_266 (v := 4) (by decide) rfl ?_
        refine gw_cVp C 270 dL_clerks_267 rfl yv_X5_clerk lk_L_29 [.int (fv_X5_free x4 M), .int (4 : Int32)] [] rfl (ct_X5_clerk (E := E) (l := ps_l X) (fv_X5_free x4 M) (4 : Int32) M ((hk.2 c225).2.2.2.2.2 c260).1) rc_P rfl (Nat.le_of_ble_eq_true rfl) (Nat.le_of_ble_eq_true rfl) (Nat.le_of_ble_eq_true rfl) ?_
        refine gw_aload_n C 271 dL_clerks_270 0 rfl rfl ?_
        refine gw_iload C 273 dL_clerks_271 6 rfl rfl ?_
        refine gw_iconst C 274 dL_clerks_273 (v := 4) (by decide) rfl ?_
        refine gw_cVp C 277 dL_clerks_274 rfl yv_X5_clerk lk_L_29 [.int (fv_X5_free (x4 + (1 : Int32)) M), .int (4 : Int32)] [.int (fv_X5_clerk (fv_X5_free x4 M) (4 : Int32) M)] rfl (ct_X5_clerk (E := E) (l := ps_l X) (fv_X5_free (x4 + (1 : Int32)) M) (4 : Int32) M ((hk.2 c225).2.2.2.2.2 c260).2.1) rc_P rfl (Nat.le_of_ble_eq_true rfl) (Nat.le_of_ble_eq_true rfl) (Nat.le_of_ble_eq_true rfl) ?_
        refine gw_ic_ne C 289 280 dL_clerks_277 (by decide) rfl (fun c277 => ?_) (fun c277 => ?_)
        · refine gw_iload C 282 dL_clerks_280 5 rfl rfl ?_
          refine gw_iload C 284 dL_clerks_282 6 rfl rfl ?_
          refine gw_ic_le C 289 287 dL_clerks_284 (by decide) rfl (fun c284 => ?_) (fun c284 => ?_)
          · refine gw_iinc C 292 dL_clerks_289 rfl (y := 1) (by decide) rfl 4 rfl [(0, .ref (ps_ad E 0)), (1, .int x1), (2, .int x2), (3, .int x3), (4, .int (x4 + (1 : Int32))), (5, .int (fv_X5_free x4 M)), (6, .int (fv_X5_free (x4 + (1 : Int32)) M))] [1, 2, 3, 4, 0, 5, 6] (by decide) rfl ?_
            refine gw_goto C 220 dL_clerks_292 (by decide) ?_
            refine gw_sub C [(0, .ref (ps_ad E 0)), (1, .int x1), (2, .int x2), (3, .int x3), (4, .int (x4 + (1 : Int32)))] [0, 1, 2, 3, 4] rfl ?_
            exact ih x1 x2 x3 (x4 + (1 : Int32)) M ((((hk.2 c225).2.2.2.2.2 c260).2.2.1 c277).1 c284)
          · refine gw_iconst C 288 dL_clerks_287 (v := 0) (by decide) rfl ?_
            exact RT _ _ _ _ dL_clerks_288 ps_nb0
        · refine gw_iinc C 292 dL_clerks_289 rfl (y := 1) (by decide) rfl 4 rfl [(0, .ref (ps_ad E 0)), (1, .int x1), (2, .int x2), (3, .int x3), (4, .int (x4 + (1 : Int32))), (5, .int (fv_X5_free x4 M)), (6, .int (fv_X5_free (x4 + (1 : Int32)) M))] [1, 2, 3, 4, 0, 5, 6] (by decide) rfl ?_
          refine gw_goto C 220 dL_clerks_292 (by decide) ?_
          refine gw_sub C [(0, .ref (ps_ad E 0)), (1, .int x1), (2, .int x2), (3, .int x3), (4, .int (x4 + (1 : Int32)))] [0, 1, 2, 3, 4] rfl ?_
          exact ih x1 x2 x3 (x4 + (1 : Int32)) M (((hk.2 c225).2.2.2.2.2 c260).2.2.2 c277)
def fv_L_clerks_199 (rec9 : Int32 → Int32 → Int32 → Int32 → ps_M → Int32 × ps_M) (x1 : Int32) (x3 : Int32) (x4 : Int32) (s1 : Int32) (s0 : Int32) (M : ps_M) : Int32 × ps_M := rec9 x1 (s0 + s1) (x3 + (fv_X5_clerk x4 (4 : Int32) M)) (x4 + (1 : Int32)) M
def ok_L_clerks_199 (rec9 : Int32 → Int32 → Int32 → Int32 → ps_M → Int32 × ps_M) (okr9 : Int32 → Int32 → Int32 → Int32 → ps_M → Prop) (x1 : Int32) (x3 : Int32) (x4 : Int32) (s1 : Int32) (s0 : Int32) (M : ps_M) : Prop := (ok_X5_clerk x4 (4 : Int32) M) ∧ (okr9 x1 (s0 + s1) (x3 + (fv_X5_clerk x4 (4 : Int32) M)) (x4 + (1 : Int32)) M)
set_option maxRecDepth 100000 in
set_option maxHeartbeats 4000000 in
theorem bw_L_clerks_199 {E : ps_E} {X : ps_X (Int32 × ps_M)} (C : ps_C (ps_Yc E) X cL_clerks RL (some .boolean) 4 86 9) (RT : ps_RI (ps_Yc E) X cL_clerks .boolean) (rec9 : Int32 → Int32 → Int32 → Int32 → ps_M → Int32 × ps_M) (okr9 : Int32 → Int32 → Int32 → Int32 → ps_M → Prop) (hr9 : ∀ (x1 : Int32) (x2 : Int32) (x3 : Int32) (x4 : Int32)  (M : ps_M), okr9 x1 x2 x3 x4 M → ps_G (ps_Yc E) X (rec9 x1 x2 x3 x4 M) 9 [(0, .ref (ps_ad E 0)), (1, .int x1), (2, .int x2), (3, .int x3), (4, .int x4)] [] M) (x1 : Int32) (x3 : Int32) (x4 : Int32) (s1 : Int32) (s0 : Int32) (M : ps_M) (hk : ok_L_clerks_199 rec9 okr9 x1 x3 x4 s1 s0 M) : ps_G (ps_Yc E) X (fv_L_clerks_199 rec9 x1 x3 x4 s1 s0 M) 199 [(0, .ref (ps_ad E 0)), (1, .int x1), (3, .int x3), (4, .int x4)] [.int s1, .int s0] M := by
  unfold fv_L_clerks_199
  unfold ok_L_clerks_199 at hk
  refine gw_iadd C 200 dL_clerks_199 rfl ?_
  refine gw_istore_n C 201 dL_clerks_200 rfl [(0, .ref (ps_ad E 0)), (1, .int x1), (2, .int (s0 + s1)), (3, .int x3), (4, .int x4)] [1, 2, 0, 3, 4] (by decide) rfl ?_
  refine gw_iload_n C 202 dL_clerks_201 3 rfl rfl ?_
  refine gw_aload_n C 203 dL_clerks_202 0 rfl rfl ?_
  refine gw_iload C 205 dL_clerks_203 4 rfl rfl ?_
  refine gw_iconst C 206 dL_clerks_205 (v := 4) (by decide) rfl ?_
  refine gw_cVp C 209 dL_clerks_206 rfl yv_X5_clerk lk_L_29 [.int x4, .int (4 : Int32)] [.int x3] rfl (ct_X5_clerk (E := E) (l := ps_l X) x4 (4 : Int32) M hk.1) rc_P rfl (Nat.le_of_ble_eq_true rfl) (Nat.le_of_ble_eq_true rfl) (Nat.le_of_ble_eq_true rfl) ?_
  refine gw_iadd C 210 dL_clerks_209 rfl ?_
  refine gw_istore_n C 211 dL_clerks_210 rfl [(0, .ref (ps_ad E 0)), (1, .int x1), (2, .int (s0 + s1)), (3, .int (x3 + (fv_X5_clerk x4 (4 : Int32) M))), (4, .int x4)] [1, 2, 3, 0, 4] (by decide) rfl ?_
  refine gw_iinc C 214 dL_clerks_211 rfl (y := 1) (by decide) rfl 4 rfl [(0, .ref (ps_ad E 0)), (1, .int x1), (2, .int (s0 + s1)), (3, .int (x3 + (fv_X5_clerk x4 (4 : Int32) M))), (4, .int (x4 + (1 : Int32)))] [1, 2, 3, 4, 0] (by decide) rfl ?_
  refine gw_goto C 9 dL_clerks_214 (by decide) ?_
  exact hr9 x1 (s0 + s1) (x3 + (fv_X5_clerk x4 (4 : Int32) M)) (x4 + (1 : Int32)) M hk.2
def fv_L_clerks_186 (rec9 : Int32 → Int32 → Int32 → Int32 → ps_M → Int32 × ps_M) (x2 : Int32) (x3 : Int32) (x4 : Int32) (x7 : Int32) (s1 : Int32) (s0 : Int32) (M : ps_M) : Int32 × ps_M := if x7 < 0 then (fv_L_clerks_199 rec9 (s0 + s1) x3 x4 (0 : Int32) x2 M) else (fv_L_clerks_199 rec9 (s0 + s1) x3 x4 (1 : Int32) x2 M)
def ok_L_clerks_186 (rec9 : Int32 → Int32 → Int32 → Int32 → ps_M → Int32 × ps_M) (okr9 : Int32 → Int32 → Int32 → Int32 → ps_M → Prop) (x2 : Int32) (x3 : Int32) (x4 : Int32) (x7 : Int32) (s1 : Int32) (s0 : Int32) (M : ps_M) : Prop := (x7 < 0 → (ok_L_clerks_199 rec9 okr9 (s0 + s1) x3 x4 (0 : Int32) x2 M)) ∧ (¬ (x7 < 0) → (ok_L_clerks_199 rec9 okr9 (s0 + s1) x3 x4 (1 : Int32) x2 M))
set_option maxRecDepth 100000 in
set_option maxHeartbeats 4000000 in
theorem bw_L_clerks_186 {E : ps_E} {X : ps_X (Int32 × ps_M)} (C : ps_C (ps_Yc E) X cL_clerks RL (some .boolean) 4 86 9) (RT : ps_RI (ps_Yc E) X cL_clerks .boolean) (rec9 : Int32 → Int32 → Int32 → Int32 → ps_M → Int32 × ps_M) (okr9 : Int32 → Int32 → Int32 → Int32 → ps_M → Prop) (hr9 : ∀ (x1 : Int32) (x2 : Int32) (x3 : Int32) (x4 : Int32)  (M : ps_M), okr9 x1 x2 x3 x4 M → ps_G (ps_Yc E) X (rec9 x1 x2 x3 x4 M) 9 [(0, .ref (ps_ad E 0)), (1, .int x1), (2, .int x2), (3, .int x3), (4, .int x4)] [] M) (x2 : Int32) (x3 : Int32) (x4 : Int32) (x7 : Int32) (s1 : Int32) (s0 : Int32) (M : ps_M) (hk : ok_L_clerks_186 rec9 okr9 x2 x3 x4 x7 s1 s0 M) : ps_G (ps_Yc E) X (fv_L_clerks_186 rec9 x2 x3 x4 x7 s1 s0 M) 186 [(0, .ref (ps_ad E 0)), (2, .int x2), (3, .int x3), (4, .int x4), (7, .int x7)] [.int s1, .int s0] M := by
  unfold fv_L_clerks_186
  unfold ok_L_clerks_186 at hk
  refine gw_iadd C 187 dL_clerks_186 rfl ?_
  refine gw_istore_n C 188 dL_clerks_187 rfl [(0, .ref (ps_ad E 0)), (1, .int (s0 + s1)), (2, .int x2), (3, .int x3), (4, .int x4), (7, .int x7)] [1, 0, 2, 3, 4, 5] (by decide) rfl ?_
  refine gw_iload_n C 189 dL_clerks_188 2 rfl rfl ?_
  refine gw_iload C 191 dL_clerks_189 5 rfl rfl ?_
  refine gw_if_lt C 198 194 dL_clerks_191 (by decide) rfl (fun c191 => ?_) (fun c191 => ?_)
  · refine gw_iconst C 199 dL_clerks_198 (v := 0) (by decide) rfl ?_
    refine gw_sub C [(0, .ref (ps_ad E 0)), (1, .int (s0 + s1)), (3, .int x3), (4, .int x4)] [0, 1, 3, 4] rfl ?_
    exact bw_L_clerks_199 C RT _ _ hr9 (s0 + s1) x3 x4 (0 : Int32) x2 M (hk.1 c191)
  · refine gw_iconst C 195 dL_clerks_194 (v := 1) (by decide) rfl ?_
    refine gw_goto C 199 dL_clerks_195 (by decide) ?_
    refine gw_sub C [(0, .ref (ps_ad E 0)), (1, .int (s0 + s1)), (3, .int x3), (4, .int x4)] [0, 1, 3, 4] rfl ?_
    exact bw_L_clerks_199 C RT _ _ hr9 (s0 + s1) x3 x4 (1 : Int32) x2 M (hk.2 c191)
def fv_L_clerks_158 (rec9 : Int32 → Int32 → Int32 → Int32 → ps_M → Int32 × ps_M) (x1 : Int32) (x2 : Int32) (x3 : Int32) (x4 : Int32) (x5 : Int32) (x7 : Int32) (M : ps_M) : Int32 × ps_M := if (fv_X5_clerk x4 (4 : Int32) M) ≤ (fv_X5_count (0 : Int32) M).1 then (if x5 < 0 then (fv_L_clerks_186 rec9 x2 x3 x4 x7 (0 : Int32) x1 ((fv_X5_count (0 : Int32) M).2)) else (fv_L_clerks_186 rec9 x2 x3 x4 x7 (1 : Int32) x1 ((fv_X5_count (0 : Int32) M).2))) else (((0 : Int32), (fv_X5_count (0 : Int32) M).2))
def ok_L_clerks_158 (rec9 : Int32 → Int32 → Int32 → Int32 → ps_M → Int32 × ps_M) (okr9 : Int32 → Int32 → Int32 → Int32 → ps_M → Prop) (x1 : Int32) (x2 : Int32) (x3 : Int32) (x4 : Int32) (x5 : Int32) (x7 : Int32) (M : ps_M) : Prop := (ok_X5_clerk x4 (4 : Int32) M) ∧ ((ok_X5_count (0 : Int32) M) ∧ (((fv_X5_clerk x4 (4 : Int32) M) ≤ (fv_X5_count (0 : Int32) M).1 → ((x5 < 0 → (ok_L_clerks_186 rec9 okr9 x2 x3 x4 x7 (0 : Int32) x1 ((fv_X5_count (0 : Int32) M).2))) ∧ (¬ (x5 < 0) → (ok_L_clerks_186 rec9 okr9 x2 x3 x4 x7 (1 : Int32) x1 ((fv_X5_count (0 : Int32) M).2))))) ∧ (¬ ((fv_X5_clerk x4 (4 : Int32) M) ≤ (fv_X5_count (0 : Int32) M).1) → True)))
set_option maxRecDepth 100000 in
set_option maxHeartbeats 4000000 in
theorem bw_L_clerks_158 {E : ps_E} {X : ps_X (Int32 × ps_M)} (C : ps_C (ps_Yc E) X cL_clerks RL (some .boolean) 4 86 9) (RT : ps_RI (ps_Yc E) X cL_clerks .boolean) (rec9 : Int32 → Int32 → Int32 → Int32 → ps_M → Int32 × ps_M) (okr9 : Int32 → Int32 → Int32 → Int32 → ps_M → Prop) (hr9 : ∀ (x1 : Int32) (x2 : Int32) (x3 : Int32) (x4 : Int32)  (M : ps_M), okr9 x1 x2 x3 x4 M → ps_G (ps_Yc E) X (rec9 x1 x2 x3 x4 M) 9 [(0, .ref (ps_ad E 0)), (1, .int x1), (2, .int x2), (3, .int x3), (4, .int x4)] [] M) (x1 : Int32) (x2 : Int32) (x3 : Int32) (x4 : Int32) (x5 : Int32) (x7 : Int32) (M : ps_M) (hk : ok_L_clerks_158 rec9 okr9 x1 x2 x3 x4 x5 x7 M) : ps_G (ps_Yc E) X (fv_L_clerks_158 rec9 x1 x2 x3 x4 x5 x7 M) 158 [(0, .ref (ps_ad E 0)), (1, .int x1), (2, .int x2), (3, .int x3), (4, .int x4), (5, .int x5), (7, .int x7)] [] M := by
  unfold fv_L_clerks_158
  unfold ok_L_clerks_158 at hk
  refine gw_aload_n C 159 dL_clerks_158 0 rfl rfl ?_
  refine gw_iload C 161 dL_clerks_159 4 rfl rfl ?_
  refine gw_iconst C 162 dL_clerks_161 (v := 4) (by decide) rfl ?_
  refine gw_cVp C 165 dL_clerks_162 rfl yv_X5_clerk lk_L_29 [.int x4, .int (4 : Int32)] [] rfl (ct_X5_clerk (E := E) (l := ps_l X) x4 (4 : Int32) M hk.1) rc_P rfl (Nat.le_of_ble_eq_true rfl) (Nat.le_of_ble_eq_true rfl) (Nat.le_of_ble_eq_true rfl) ?_
  refine gw_aload_n C 166 dL_clerks_165 0 rfl rfl ?_
  refine gw_iconst C 167 dL_clerks_166 (v := 0) (by decide) rfl ?_
  refine gw_cVi C 170 dL_clerks_167 rfl yv_X5_count lk_L_13 [.int (0 : Int32)] [.int (fv_X5_clerk x4 (4 : Int32) M)] rfl (ct_X5_count (E := E) (l := ps_l X) (0 : Int32) M hk.2.1) rc_P rfl (Nat.le_of_ble_eq_true rfl) (Nat.le_of_ble_eq_true rfl) (Nat.le_of_ble_eq_true rfl) ?_
  refine gw_ic_le C 175 173 dL_clerks_170 (by decide) rfl (fun c170 => ?_) (fun c170 => ?_)
  · refine gw_iload_n C 176 dL_clerks_175 1 rfl rfl ?_
    refine gw_iload C 178 dL_clerks_176 5 rfl rfl ?_
    refine gw_if_lt C 185 181 dL_clerks_178 (by decide) rfl (fun c178 => ?_) (fun c178 => ?_)
    · refine gw_iconst C 186 dL_clerks_185 (v := 0) (by decide) rfl ?_
      refine gw_sub C [(0, .ref (ps_ad E 0)), (2, .int x2), (3, .int x3), (4, .int x4), (7, .int x7)] [0, 2, 3, 4, 6] rfl ?_
      exact bw_L_clerks_186 C RT _ _ hr9 x2 x3 x4 x7 (0 : Int32) x1 ((fv_X5_count (0 : Int32) M).2) ((hk.2.2.1 c170).1 c178)
    · refine gw_iconst C 182 dL_clerks_181 (v := 1) (by decide) rfl ?_
      refine gw_goto C 186 dL_clerks_182 (by decide) ?_
      refine gw_sub C [(0, .ref (ps_ad E 0)), (2, .int x2), (3, .int x3), (4, .int x4), (7, .int x7)] [0, 2, 3, 4, 6] rfl ?_
      exact bw_L_clerks_186 C RT _ _ hr9 x2 x3 x4 x7 (1 : Int32) x1 ((fv_X5_count (0 : Int32) M).2) ((hk.2.2.1 c170).2 c178)
  · refine gw_iconst C 174 dL_clerks_173 (v := 0) (by decide) rfl ?_
    exact RT _ _ _ _ dL_clerks_174 ps_nb0
def fv_L_clerks_139 (rec9 : Int32 → Int32 → Int32 → Int32 → ps_M → Int32 × ps_M) (x1 : Int32) (x2 : Int32) (x3 : Int32) (x4 : Int32) (x5 : Int32) (x7 : Int32) (s1 : Int32) (s0 : Int32) (M : ps_M) : Int32 × ps_M := if s0 = s1 then (if x7 < 0 then (fv_L_clerks_158 rec9 x1 x2 x3 x4 x5 x7 M) else (if (fv_X5_free x7 M) = x4 then (fv_L_clerks_158 rec9 x1 x2 x3 x4 x5 x7 M) else (((0 : Int32), M)))) else (((0 : Int32), M))
def ok_L_clerks_139 (rec9 : Int32 → Int32 → Int32 → Int32 → ps_M → Int32 × ps_M) (okr9 : Int32 → Int32 → Int32 → Int32 → ps_M → Prop) (x1 : Int32) (x2 : Int32) (x3 : Int32) (x4 : Int32) (x5 : Int32) (x7 : Int32) (s1 : Int32) (s0 : Int32) (M : ps_M) : Prop := (s0 = s1 → ((x7 < 0 → (ok_L_clerks_158 rec9 okr9 x1 x2 x3 x4 x5 x7 M)) ∧ (¬ (x7 < 0) → ((ok_X5_free x7 M) ∧ (((fv_X5_free x7 M) = x4 → (ok_L_clerks_158 rec9 okr9 x1 x2 x3 x4 x5 x7 M)) ∧ (¬ ((fv_X5_free x7 M) = x4) → True)))))) ∧ (¬ (s0 = s1) → True)
set_option maxRecDepth 100000 in
set_option maxHeartbeats 4000000 in
theorem bw_L_clerks_139 {E : ps_E} {X : ps_X (Int32 × ps_M)} (C : ps_C (ps_Yc E) X cL_clerks RL (some .boolean) 4 86 9) (RT : ps_RI (ps_Yc E) X cL_clerks .boolean) (rec9 : Int32 → Int32 → Int32 → Int32 → ps_M → Int32 × ps_M) (okr9 : Int32 → Int32 → Int32 → Int32 → ps_M → Prop) (hr9 : ∀ (x1 : Int32) (x2 : Int32) (x3 : Int32) (x4 : Int32)  (M : ps_M), okr9 x1 x2 x3 x4 M → ps_G (ps_Yc E) X (rec9 x1 x2 x3 x4 M) 9 [(0, .ref (ps_ad E 0)), (1, .int x1), (2, .int x2), (3, .int x3), (4, .int x4)] [] M) (x1 : Int32) (x2 : Int32) (x3 : Int32) (x4 : Int32) (x5 : Int32) (x7 : Int32) (s1 : Int32) (s0 : Int32) (M : ps_M) (hk : ok_L_clerks_139 rec9 okr9 x1 x2 x3 x4 x5 x7 s1 s0 M) : ps_G (ps_Yc E) X (fv_L_clerks_139 rec9 x1 x2 x3 x4 x5 x7 s1 s0 M) 139 [(0, .ref (ps_ad E 0)), (1, .int x1), (2, .int x2), (3, .int x3), (4, .int x4), (5, .int x5), (7, .int x7)] [.int s1, .int s0] M := by
  unfold fv_L_clerks_139
  unfold ok_L_clerks_139 at hk
  refine gw_ic_ne C 173 142 dL_clerks_139 (by decide) rfl (fun c139 => ?_) (fun c139 => ?_)
  · refine gw_iload C 144 dL_clerks_142 6 rfl rfl ?_
    refine gw_if_lt C 158 147 dL_clerks_144 (by decide) rfl (fun c144 => ?_) (fun c144 => ?_)
    · exact bw_L_clerks_158 C RT _ _ hr9 x1 x2 x3 x4 x5 x7 M ((hk.1 c139).1 c144)
    · refine gw_aload_n C 148 dL_clerks_147 0 rfl rfl ?_
      refine gw_iload C 150 dL_clerks_148 6 rfl rfl ?_
      refine gw_cVp C 153 dL_clerks_150 rfl yv_X5_free lk_L_75 [.int x7] [] rfl (ct_X5_free (E := E) (l := ps_l X) x7 M ((hk.1 c139).2 c144).1) rc_P rfl (Nat.le_of_ble_eq_true rfl) (Nat.le_of_ble_eq_true rfl) (Nat.le_of_ble_eq_true rfl) ?_
      refine gw_iload C 155 dL_clerks_153 4 rfl rfl ?_
      refine gw_ic_ne C 173 158 dL_clerks_155 (by decide) rfl (fun c155 => ?_) (fun c155 => ?_)
      · exact bw_L_clerks_158 C RT _ _ hr9 x1 x2 x3 x4 x5 x7 M (((hk.1 c139).2 c144).2.1 c155)
      · refine gw_iconst C 174 dL_clerks_173 (v := 0) (by decide) rfl ?_
        exact RT _ _ _ _ dL_clerks_174 ps_nb0
  · refine gw_iconst C 174 dL_clerks_173 (v := 0) (by decide) rfl ?_
    exact RT _ _ _ _ dL_clerks_174 ps_nb0
def fv_L_clerks_138 (rec9 : Int32 → Int32 → Int32 → Int32 → ps_M → Int32 × ps_M) (x1 : Int32) (x2 : Int32) (x3 : Int32) (x4 : Int32) (x5 : Int32) (x7 : Int32) (s0 : Int32) (M : ps_M) : Int32 × ps_M := fv_L_clerks_139 rec9 x1 x2 x3 x4 x5 x7 (0 : Int32) s0 M
def ok_L_clerks_138 (rec9 : Int32 → Int32 → Int32 → Int32 → ps_M → Int32 × ps_M) (okr9 : Int32 → Int32 → Int32 → Int32 → ps_M → Prop) (x1 : Int32) (x2 : Int32) (x3 : Int32) (x4 : Int32) (x5 : Int32) (x7 : Int32) (s0 : Int32) (M : ps_M) : Prop := ok_L_clerks_139 rec9 okr9 x1 x2 x3 x4 x5 x7 (0 : Int32) s0 M
set_option maxRecDepth 100000 in
set_option maxHeartbeats 4000000 in
theorem bw_L_clerks_138 {E : ps_E} {X : ps_X (Int32 × ps_M)} (C : ps_C (ps_Yc E) X cL_clerks RL (some .boolean) 4 86 9) (RT : ps_RI (ps_Yc E) X cL_clerks .boolean) (rec9 : Int32 → Int32 → Int32 → Int32 → ps_M → Int32 × ps_M) (okr9 : Int32 → Int32 → Int32 → Int32 → ps_M → Prop) (hr9 : ∀ (x1 : Int32) (x2 : Int32) (x3 : Int32) (x4 : Int32)  (M : ps_M), okr9 x1 x2 x3 x4 M → ps_G (ps_Yc E) X (rec9 x1 x2 x3 x4 M) 9 [(0, .ref (ps_ad E 0)), (1, .int x1), (2, .int x2), (3, .int x3), (4, .int x4)] [] M) (x1 : Int32) (x2 : Int32) (x3 : Int32) (x4 : Int32) (x5 : Int32) (x7 : Int32) (s0 : Int32) (M : ps_M) (hk : ok_L_clerks_138 rec9 okr9 x1 x2 x3 x4 x5 x7 s0 M) : ps_G (ps_Yc E) X (fv_L_clerks_138 rec9 x1 x2 x3 x4 x5 x7 s0 M) 138 [(0, .ref (ps_ad E 0)), (1, .int x1), (2, .int x2), (3, .int x3), (4, .int x4), (5, .int x5), (7, .int x7)] [.int s0] M := by
  unfold fv_L_clerks_138
  unfold ok_L_clerks_138 at hk
  refine gw_iconst C 139 dL_clerks_138 (v := 0) (by decide) rfl ?_
  exact bw_L_clerks_139 C RT _ _ hr9 x1 x2 x3 x4 x5 x7 (0 : Int32) s0 M hk
def fv_L_clerks_124 (rec9 : Int32 → Int32 → Int32 → Int32 → ps_M → Int32 × ps_M) (x1 : Int32) (x2 : Int32) (x3 : Int32) (x4 : Int32) (x5 : Int32) (x7 : Int32) (x8 : Int32) (s0 : Int32) (M : ps_M) : Int32 × ps_M := if 0 ≤ x5 then (fv_L_clerks_138 rec9 x1 x2 x3 x4 x5 x7 s0 M) else (if x8 = 0 then (fv_L_clerks_139 rec9 x1 x2 x3 x4 x5 x7 (1 : Int32) s0 M) else (fv_L_clerks_138 rec9 x1 x2 x3 x4 x5 x7 s0 M))
def ok_L_clerks_124 (rec9 : Int32 → Int32 → Int32 → Int32 → ps_M → Int32 × ps_M) (okr9 : Int32 → Int32 → Int32 → Int32 → ps_M → Prop) (x1 : Int32) (x2 : Int32) (x3 : Int32) (x4 : Int32) (x5 : Int32) (x7 : Int32) (x8 : Int32) (s0 : Int32) (M : ps_M) : Prop := (0 ≤ x5 → (ok_L_clerks_138 rec9 okr9 x1 x2 x3 x4 x5 x7 s0 M)) ∧ (¬ (0 ≤ x5) → ((x8 = 0 → (ok_L_clerks_139 rec9 okr9 x1 x2 x3 x4 x5 x7 (1 : Int32) s0 M)) ∧ (¬ (x8 = 0) → (ok_L_clerks_138 rec9 okr9 x1 x2 x3 x4 x5 x7 s0 M))))
set_option maxRecDepth 100000 in
set_option maxHeartbeats 4000000 in
theorem bw_L_clerks_124 {E : ps_E} {X : ps_X (Int32 × ps_M)} (C : ps_C (ps_Yc E) X cL_clerks RL (some .boolean) 4 86 9) (RT : ps_RI (ps_Yc E) X cL_clerks .boolean) (rec9 : Int32 → Int32 → Int32 → Int32 → ps_M → Int32 × ps_M) (okr9 : Int32 → Int32 → Int32 → Int32 → ps_M → Prop) (hr9 : ∀ (x1 : Int32) (x2 : Int32) (x3 : Int32) (x4 : Int32)  (M : ps_M), okr9 x1 x2 x3 x4 M → ps_G (ps_Yc E) X (rec9 x1 x2 x3 x4 M) 9 [(0, .ref (ps_ad E 0)), (1, .int x1), (2, .int x2), (3, .int x3), (4, .int x4)] [] M) (x1 : Int32) (x2 : Int32) (x3 : Int32) (x4 : Int32) (x5 : Int32) (x7 : Int32) (x8 : Int32) (s0 : Int32) (M : ps_M) (hk : ok_L_clerks_124 rec9 okr9 x1 x2 x3 x4 x5 x7 x8 s0 M) : ps_G (ps_Yc E) X (fv_L_clerks_124 rec9 x1 x2 x3 x4 x5 x7 x8 s0 M) 124 [(0, .ref (ps_ad E 0)), (1, .int x1), (2, .int x2), (3, .int x3), (4, .int x4), (5, .int x5), (7, .int x7), (8, .int x8)] [.int s0] M := by
  unfold fv_L_clerks_124
  unfold ok_L_clerks_124 at hk
  refine gw_iload C 126 dL_clerks_124 5 rfl rfl ?_
  refine gw_if_ge C 138 129 dL_clerks_126 (by decide) rfl (fun c126 => ?_) (fun c126 => ?_)
  · refine gw_sub C [(0, .ref (ps_ad E 0)), (1, .int x1), (2, .int x2), (3, .int x3), (4, .int x4), (5, .int x5), (7, .int x7)] [0, 1, 2, 3, 4, 5, 6] rfl ?_
    exact bw_L_clerks_138 C RT _ _ hr9 x1 x2 x3 x4 x5 x7 s0 M (hk.1 c126)
  · refine gw_iload C 131 dL_clerks_129 7 rfl rfl ?_
    refine gw_if_ne C 138 134 dL_clerks_131 (by decide) rfl (fun c131 => ?_) (fun c131 => ?_)
    · refine gw_iconst C 135 dL_clerks_134 (v := 1) (by decide) rfl ?_
      refine gw_goto C 139 dL_clerks_135 (by decide) ?_
      refine gw_sub C [(0, .ref (ps_ad E 0)), (1, .int x1), (2, .int x2), (3, .int x3), (4, .int x4), (5, .int x5), (7, .int x7)] [0, 1, 2, 3, 4, 5, 6] rfl ?_
      exact bw_L_clerks_139 C RT _ _ hr9 x1 x2 x3 x4 x5 x7 (1 : Int32) s0 M ((hk.2 c126).1 c131)
    · refine gw_sub C [(0, .ref (ps_ad E 0)), (1, .int x1), (2, .int x2), (3, .int x3), (4, .int x4), (5, .int x5), (7, .int x7)] [0, 1, 2, 3, 4, 5, 6] rfl ?_
      exact bw_L_clerks_138 C RT _ _ hr9 x1 x2 x3 x4 x5 x7 s0 M ((hk.2 c126).2 c131)
def fv_L_clerks_114 (rec9 : Int32 → Int32 → Int32 → Int32 → ps_M → Int32 × ps_M) (x1 : Int32) (x2 : Int32) (x3 : Int32) (x4 : Int32) (x5 : Int32) (x7 : Int32) (x8 : Int32) (M : ps_M) : Int32 × ps_M := if x7 < 0 then (fv_L_clerks_124 rec9 x1 x2 x3 x4 x5 x7 x8 (0 : Int32) M) else (fv_L_clerks_124 rec9 x1 x2 x3 x4 x5 x7 x8 (1 : Int32) M)
def ok_L_clerks_114 (rec9 : Int32 → Int32 → Int32 → Int32 → ps_M → Int32 × ps_M) (okr9 : Int32 → Int32 → Int32 → Int32 → ps_M → Prop) (x1 : Int32) (x2 : Int32) (x3 : Int32) (x4 : Int32) (x5 : Int32) (x7 : Int32) (x8 : Int32) (M : ps_M) : Prop := (x7 < 0 → (ok_L_clerks_124 rec9 okr9 x1 x2 x3 x4 x5 x7 x8 (0 : Int32) M)) ∧ (¬ (x7 < 0) → (ok_L_clerks_124 rec9 okr9 x1 x2 x3 x4 x5 x7 x8 (1 : Int32) M))
set_option maxRecDepth 100000 in
set_option maxHeartbeats 4000000 in
theorem bw_L_clerks_114 {E : ps_E} {X : ps_X (Int32 × ps_M)} (C : ps_C (ps_Yc E) X cL_clerks RL (some .boolean) 4 86 9) (RT : ps_RI (ps_Yc E) X cL_clerks .boolean) (rec9 : Int32 → Int32 → Int32 → Int32 → ps_M → Int32 × ps_M) (okr9 : Int32 → Int32 → Int32 → Int32 → ps_M → Prop) (hr9 : ∀ (x1 : Int32) (x2 : Int32) (x3 : Int32) (x4 : Int32)  (M : ps_M), okr9 x1 x2 x3 x4 M → ps_G (ps_Yc E) X (rec9 x1 x2 x3 x4 M) 9 [(0, .ref (ps_ad E 0)), (1, .int x1), (2, .int x2), (3, .int x3), (4, .int x4)] [] M) (x1 : Int32) (x2 : Int32) (x3 : Int32) (x4 : Int32) (x5 : Int32) (x7 : Int32) (x8 : Int32) (M : ps_M) (hk : ok_L_clerks_114 rec9 okr9 x1 x2 x3 x4 x5 x7 x8 M) : ps_G (ps_Yc E) X (fv_L_clerks_114 rec9 x1 x2 x3 x4 x5 x7 x8 M) 114 [(0, .ref (ps_ad E 0)), (1, .int x1), (2, .int x2), (3, .int x3), (4, .int x4), (5, .int x5), (7, .int x7), (8, .int x8)] [] M := by
  unfold fv_L_clerks_114
  unfold ok_L_clerks_114 at hk
  refine gw_iload C 116 dL_clerks_114 6 rfl rfl ?_
  refine gw_if_lt C 123 119 dL_clerks_116 (by decide) rfl (fun c116 => ?_) (fun c116 => ?_)
  · refine gw_iconst C 124 dL_clerks_123 (v := 0) (by decide) rfl ?_
    exact bw_L_clerks_124 C RT _ _ hr9 x1 x2 x3 x4 x5 x7 x8 (0 : Int32) M (hk.1 c116)
  · refine gw_iconst C 120 dL_clerks_119 (v := 1) (by decide) rfl ?_
    refine gw_goto C 124 dL_clerks_120 (by decide) ?_
    exact bw_L_clerks_124 C RT _ _ hr9 x1 x2 x3 x4 x5 x7 x8 (1 : Int32) M (hk.2 c116)
def fv_L_clerks_104 (rec9 : Int32 → Int32 → Int32 → Int32 → ps_M → Int32 × ps_M) (x1 : Int32) (x2 : Int32) (x3 : Int32) (x4 : Int32) (x5 : Int32) (x7 : Int32) (x8 : Int32) (M : ps_M) : Int32 × ps_M := if x5 < 0 then (fv_L_clerks_114 rec9 x1 x2 x3 x4 x5 x7 x8 M) else (if x8 = 0 then (fv_L_clerks_114 rec9 x1 x2 x3 x4 x5 x7 x8 M) else (((0 : Int32), M)))
def ok_L_clerks_104 (rec9 : Int32 → Int32 → Int32 → Int32 → ps_M → Int32 × ps_M) (okr9 : Int32 → Int32 → Int32 → Int32 → ps_M → Prop) (x1 : Int32) (x2 : Int32) (x3 : Int32) (x4 : Int32) (x5 : Int32) (x7 : Int32) (x8 : Int32) (M : ps_M) : Prop := (x5 < 0 → (ok_L_clerks_114 rec9 okr9 x1 x2 x3 x4 x5 x7 x8 M)) ∧ (¬ (x5 < 0) → ((x8 = 0 → (ok_L_clerks_114 rec9 okr9 x1 x2 x3 x4 x5 x7 x8 M)) ∧ (¬ (x8 = 0) → True)))
set_option maxRecDepth 100000 in
set_option maxHeartbeats 4000000 in
theorem bw_L_clerks_104 {E : ps_E} {X : ps_X (Int32 × ps_M)} (C : ps_C (ps_Yc E) X cL_clerks RL (some .boolean) 4 86 9) (RT : ps_RI (ps_Yc E) X cL_clerks .boolean) (rec9 : Int32 → Int32 → Int32 → Int32 → ps_M → Int32 × ps_M) (okr9 : Int32 → Int32 → Int32 → Int32 → ps_M → Prop) (hr9 : ∀ (x1 : Int32) (x2 : Int32) (x3 : Int32) (x4 : Int32)  (M : ps_M), okr9 x1 x2 x3 x4 M → ps_G (ps_Yc E) X (rec9 x1 x2 x3 x4 M) 9 [(0, .ref (ps_ad E 0)), (1, .int x1), (2, .int x2), (3, .int x3), (4, .int x4)] [] M) (x1 : Int32) (x2 : Int32) (x3 : Int32) (x4 : Int32) (x5 : Int32) (x7 : Int32) (x8 : Int32) (M : ps_M) (hk : ok_L_clerks_104 rec9 okr9 x1 x2 x3 x4 x5 x7 x8 M) : ps_G (ps_Yc E) X (fv_L_clerks_104 rec9 x1 x2 x3 x4 x5 x7 x8 M) 104 [(0, .ref (ps_ad E 0)), (1, .int x1), (2, .int x2), (3, .int x3), (4, .int x4), (5, .int x5), (7, .int x7), (8, .int x8)] [] M := by
  unfold fv_L_clerks_104
  unfold ok_L_clerks_104 at hk
  refine gw_iload C 106 dL_clerks_104 5 rfl rfl ?_
  refine gw_if_lt C 114 109 dL_clerks_106 (by decide) rfl (fun c106 => ?_) (fun c106 => ?_)
  · exact bw_L_clerks_114 C RT _ _ hr9 x1 x2 x3 x4 x5 x7 x8 M (hk.1 c106)
  · refine gw_iload C 111 dL_clerks_109 7 rfl rfl ?_
    refine gw_if_ne C 173 114 dL_clerks_111 (by decide) rfl (fun c111 => ?_) (fun c111 => ?_)
    · exact bw_L_clerks_114 C RT _ _ hr9 x1 x2 x3 x4 x5 x7 x8 M ((hk.2 c106).1 c111)
    · refine gw_iconst C 174 dL_clerks_173 (v := 0) (by decide) rfl ?_
      exact RT _ _ _ _ dL_clerks_174 ps_nb0
def fv_L_clerks_63 (rec9 : Int32 → Int32 → Int32 → Int32 → ps_M → Int32 × ps_M) (x1 : Int32) (x2 : Int32) (x3 : Int32) (x4 : Int32) (x5 : Int32) (x6 : Int32) (x7 : Int32) (s0 : Int32) (M : ps_M) : Int32 × ps_M := if x6 < 0 then (((0 : Int32), M)) else (if (fv_X5_clerk x4 (1 : Int32) M) < x6 then (((0 : Int32), M)) else (if (fv_X5_clerk x4 (4 : Int32) M) < x6 then (((0 : Int32), M)) else (if 0 ≤ x5 then (fv_L_clerks_104 rec9 x1 x2 x3 x4 x5 x7 s0 M) else (if x6 = 0 then (fv_L_clerks_104 rec9 x1 x2 x3 x4 x5 x7 s0 M) else (((0 : Int32), M))))))
def ok_L_clerks_63 (rec9 : Int32 → Int32 → Int32 → Int32 → ps_M → Int32 × ps_M) (okr9 : Int32 → Int32 → Int32 → Int32 → ps_M → Prop) (x1 : Int32) (x2 : Int32) (x3 : Int32) (x4 : Int32) (x5 : Int32) (x6 : Int32) (x7 : Int32) (s0 : Int32) (M : ps_M) : Prop := (x6 < 0 → True) ∧ (¬ (x6 < 0) → ((ok_X5_clerk x4 (1 : Int32) M) ∧ (((fv_X5_clerk x4 (1 : Int32) M) < x6 → True) ∧ (¬ ((fv_X5_clerk x4 (1 : Int32) M) < x6) → ((ok_X5_clerk x4 (4 : Int32) M) ∧ (((fv_X5_clerk x4 (4 : Int32) M) < x6 → True) ∧ (¬ ((fv_X5_clerk x4 (4 : Int32) M) < x6) → ((0 ≤ x5 → (ok_L_clerks_104 rec9 okr9 x1 x2 x3 x4 x5 x7 s0 M)) ∧ (¬ (0 ≤ x5) → ((x6 = 0 → (ok_L_clerks_104 rec9 okr9 x1 x2 x3 x4 x5 x7 s0 M)) ∧ (¬ (x6 = 0) → True)))))))))))
set_option maxRecDepth 100000 in
set_option maxHeartbeats 4000000 in
theorem bw_L_clerks_63 {E : ps_E} {X : ps_X (Int32 × ps_M)} (C : ps_C (ps_Yc E) X cL_clerks RL (some .boolean) 4 86 9) (RT : ps_RI (ps_Yc E) X cL_clerks .boolean) (rec9 : Int32 → Int32 → Int32 → Int32 → ps_M → Int32 × ps_M) (okr9 : Int32 → Int32 → Int32 → Int32 → ps_M → Prop) (hr9 : ∀ (x1 : Int32) (x2 : Int32) (x3 : Int32) (x4 : Int32)  (M : ps_M), okr9 x1 x2 x3 x4 M → ps_G (ps_Yc E) X (rec9 x1 x2 x3 x4 M) 9 [(0, .ref (ps_ad E 0)), (1, .int x1), (2, .int x2), (3, .int x3), (4, .int x4)] [] M) (x1 : Int32) (x2 : Int32) (x3 : Int32) (x4 : Int32) (x5 : Int32) (x6 : Int32) (x7 : Int32) (s0 : Int32) (M : ps_M) (hk : ok_L_clerks_63 rec9 okr9 x1 x2 x3 x4 x5 x6 x7 s0 M) : ps_G (ps_Yc E) X (fv_L_clerks_63 rec9 x1 x2 x3 x4 x5 x6 x7 s0 M) 63 [(0, .ref (ps_ad E 0)), (1, .int x1), (2, .int x2), (3, .int x3), (4, .int x4), (5, .int x5), (6, .int x6), (7, .int x7)] [.int s0] M := by
  unfold fv_L_clerks_63
  unfold ok_L_clerks_63 at hk
  refine gw_istore C 65 dL_clerks_63 rfl [(0, .ref (ps_ad E 0)), (1, .int x1), (2, .int x2), (3, .int x3), (4, .int x4), (5, .int x5), (6, .int x6), (7, .int x7), (8, .int s0)] [1, 2, 3, 4, 5, 6, 7, 8, 0] (by decide) rfl ?_
  refine gw_iload C 67 dL_clerks_65 6 rfl rfl ?_
  refine gw_if_lt C 173 70 dL_clerks_67 (by decide) rfl (fun c67 => ?_) (fun c67 => ?_)
  · refine gw_iconst C 174 dL_clerks_173 (v := 0) (by decide) rfl ?_
    exact RT _ _ _ _ dL_clerks_174 ps_nb0
  · refine gw_iload C 72 dL_clerks_70 6 rfl rfl ?_
    refine gw_aload_n C 73 dL_clerks_72 0 rfl rfl ?_
    refine gw_iload C 75 dL_clerks_73 4 rfl rfl ?_
    refine gw_iconst C 76 dL_clerks_75 (v := 1) (by decide) rfl ?_
    refine gw_cVp C 79 dL_clerks_76 rfl yv_X5_clerk lk_L_29 [.int x4, .int (1 : Int32)] [.int x6] rfl (ct_X5_clerk (E := E) (l := ps_l X) x4 (1 : Int32) M (hk.2 c67).1) rc_P rfl (Nat.le_of_ble_eq_true rfl) (Nat.le_of_ble_eq_true rfl) (Nat.le_of_ble_eq_true rfl) ?_
    refine gw_ic_gt C 173 82 dL_clerks_79 (by decide) rfl (fun c79 => ?_) (fun c79 => ?_)
    · refine gw_iconst C 174 dL_clerks_173 (v := 0) (by decide) rfl ?_
      exact RT _ _ _ _ dL_clerks_174 ps_nb0
    · refine gw_iload C 84 dL_clerks_82 6 rfl rfl ?_
      refine gw_aload_n C 85 dL_clerks_84 0 rfl rfl ?_
      refine gw_iload C 87 dL_clerks_85 4 rfl rfl ?_
      refine gw_iconst C 88 dL_clerks_87 (v := 4) (by decide) rfl ?_
      refine gw_cVp C 91 dL_clerks_88 rfl yv_X5_clerk lk_L_29 [.int x4, .int (4 : Int32)] [.int x6] rfl (ct_X5_clerk (E := E) (l := ps_l X) x4 (4 : Int32) M ((hk.2 c67).2.2 c79).1) rc_P rfl (Nat.le_of_ble_eq_true rfl) (Nat.le_of_ble_eq_true rfl) (Nat.le_of_ble_eq_true rfl) ?_
      refine gw_ic_gt C 173 94 dL_clerks_91 (by decide) rfl (fun c91 => ?_) (fun c91 => ?_)
      · refine gw_iconst C 174 dL_clerks_173 (v := 0) (by decide) rfl ?_
        exact RT _ _ _ _ dL_clerks_174 ps_nb0
      · refine gw_iload C 96 dL_clerks_94 5 rfl rfl ?_
        refine gw_if_ge C 104 99 dL_clerks_96 (by decide) rfl (fun c96 => ?_) (fun c96 => ?_)
        · refine gw_sub C [(0, .ref (ps_ad E 0)), (1, .int x1), (2, .int x2), (3, .int x3), (4, .int x4), (5, .int x5), (7, .int x7), (8, .int s0)] [0, 1, 2, 3, 4, 5, 7, 8] rfl ?_
          exact bw_L_clerks_104 C RT _ _ hr9 x1 x2 x3 x4 x5 x7 s0 M ((((hk.2 c67).2.2 c79).2.2 c91).1 c96)
        · refine gw_iload C 101 dL_clerks_99 6 rfl rfl ?_
          refine gw_if_ne C 173 104 dL_clerks_101 (by decide) rfl (fun c101 => ?_) (fun c101 => ?_)
          · refine gw_sub C [(0, .ref (ps_ad E 0)), (1, .int x1), (2, .int x2), (3, .int x3), (4, .int x4), (5, .int x5), (7, .int x7), (8, .int s0)] [0, 1, 2, 3, 4, 5, 7, 8] rfl ?_
            exact bw_L_clerks_104 C RT _ _ hr9 x1 x2 x3 x4 x5 x7 s0 M (((((hk.2 c67).2.2 c79).2.2 c91).2 c96).1 c101)
          · refine gw_iconst C 174 dL_clerks_173 (v := 0) (by decide) rfl ?_
            exact RT _ _ _ _ dL_clerks_174 ps_nb0
def fv_L_clerks_9 : Nat → Int32 → Int32 → Int32 → Int32 → ps_M → Int32 × ps_M
  | 0, _, _, _, _, M => (0, M)
  | n + 1, x1, x2, x3, x4, M => if (fv_X5_count (2 : Int32) M).1 ≤ x4 then (fv_L_clerks_220 ps_FU x1 x2 x3 (0 : Int32) ((fv_X5_count (2 : Int32) M).2)) else (if (fv_X5_clerk x4 (5 : Int32) ((fv_X5_count (2 : Int32) M).2)) = (1 : Int32) then (fv_L_clerks_63 (fun a1 a2 a3 a4 M => fv_L_clerks_9 n a1 a2 a3 a4 M) x1 x2 x3 x4 (fv_X5_clerk x4 (2 : Int32) ((fv_X5_count (2 : Int32) M).2)) (fv_X5_clerk x4 (3 : Int32) ((fv_X5_count (2 : Int32) M).2)) (fv_X5_clerk x4 (6 : Int32) ((fv_X5_count (2 : Int32) M).2)) (1 : Int32) ((fv_X5_count (2 : Int32) M).2)) else (fv_L_clerks_63 (fun a1 a2 a3 a4 M => fv_L_clerks_9 n a1 a2 a3 a4 M) x1 x2 x3 x4 (fv_X5_clerk x4 (2 : Int32) ((fv_X5_count (2 : Int32) M).2)) (fv_X5_clerk x4 (3 : Int32) ((fv_X5_count (2 : Int32) M).2)) (fv_X5_clerk x4 (6 : Int32) ((fv_X5_count (2 : Int32) M).2)) (0 : Int32) ((fv_X5_count (2 : Int32) M).2)))
theorem fv_L_clerks_9_s (n : Nat) (x1 : Int32) (x2 : Int32) (x3 : Int32) (x4 : Int32) (M : ps_M) : fv_L_clerks_9 (n + 1) x1 x2 x3 x4 M = (if (fv_X5_count (2 : Int32) M).1 ≤ x4 then (fv_L_clerks_220 ps_FU x1 x2 x3 (0 : Int32) ((fv_X5_count (2 : Int32) M).2)) else (if (fv_X5_clerk x4 (5 : Int32) ((fv_X5_count (2 : Int32) M).2)) = (1 : Int32) then (fv_L_clerks_63 (fun a1 a2 a3 a4 M => fv_L_clerks_9 n a1 a2 a3 a4 M) x1 x2 x3 x4 (fv_X5_clerk x4 (2 : Int32) ((fv_X5_count (2 : Int32) M).2)) (fv_X5_clerk x4 (3 : Int32) ((fv_X5_count (2 : Int32) M).2)) (fv_X5_clerk x4 (6 : Int32) ((fv_X5_count (2 : Int32) M).2)) (1 : Int32) ((fv_X5_count (2 : Int32) M).2)) else (fv_L_clerks_63 (fun a1 a2 a3 a4 M => fv_L_clerks_9 n a1 a2 a3 a4 M) x1 x2 x3 x4 (fv_X5_clerk x4 (2 : Int32) ((fv_X5_count (2 : Int32) M).2)) (fv_X5_clerk x4 (3 : Int32) ((fv_X5_count (2 : Int32) M).2)) (fv_X5_clerk x4 (6 : Int32) ((fv_X5_count (2 : Int32) M).2)) (0 : Int32) ((fv_X5_count (2 : Int32) M).2)))) := rfl
def ok_L_clerks_9 : Nat → Int32 → Int32 → Int32 → Int32 → ps_M → Prop
  | 0, _, _, _, _, _ => False
  | n + 1, x1, x2, x3, x4, M => (ok_X5_count (2 : Int32) M) ∧ (((fv_X5_count (2 : Int32) M).1 ≤ x4 → (ok_L_clerks_220 ps_FU x1 x2 x3 (0 : Int32) ((fv_X5_count (2 : Int32) M).2))) ∧ (¬ ((fv_X5_count (2 : Int32) M).1 ≤ x4) → ((ok_X5_clerk x4 (2 : Int32) ((fv_X5_count (2 : Int32) M).2)) ∧ ((ok_X5_clerk x4 (3 : Int32) ((fv_X5_count (2 : Int32) M).2)) ∧ ((ok_X5_clerk x4 (6 : Int32) ((fv_X5_count (2 : Int32) M).2)) ∧ ((ok_X5_clerk x4 (5 : Int32) ((fv_X5_count (2 : Int32) M).2)) ∧ (((fv_X5_clerk x4 (5 : Int32) ((fv_X5_count (2 : Int32) M).2)) = (1 : Int32) → (ok_L_clerks_63 (fun a1 a2 a3 a4 M => fv_L_clerks_9 n a1 a2 a3 a4 M) (fun a1 a2 a3 a4 M => ok_L_clerks_9 n a1 a2 a3 a4 M) x1 x2 x3 x4 (fv_X5_clerk x4 (2 : Int32) ((fv_X5_count (2 : Int32) M).2)) (fv_X5_clerk x4 (3 : Int32) ((fv_X5_count (2 : Int32) M).2)) (fv_X5_clerk x4 (6 : Int32) ((fv_X5_count (2 : Int32) M).2)) (1 : Int32) ((fv_X5_count (2 : Int32) M).2))) ∧ (¬ ((fv_X5_clerk x4 (5 : Int32) ((fv_X5_count (2 : Int32) M).2)) = (1 : Int32)) → (ok_L_clerks_63 (fun a1 a2 a3 a4 M => fv_L_clerks_9 n a1 a2 a3 a4 M) (fun a1 a2 a3 a4 M => ok_L_clerks_9 n a1 a2 a3 a4 M) x1 x2 x3 x4 (fv_X5_clerk x4 (2 : Int32) ((fv_X5_count (2 : Int32) M).2)) (fv_X5_clerk x4 (3 : Int32) ((fv_X5_count (2 : Int32) M).2)) (fv_X5_clerk x4 (6 : Int32) ((fv_X5_count (2 : Int32) M).2)) (0 : Int32) ((fv_X5_count (2 : Int32) M).2))))))))))
theorem ok_L_clerks_9_s (n : Nat) (x1 : Int32) (x2 : Int32) (x3 : Int32) (x4 : Int32) (M : ps_M) : ok_L_clerks_9 (n + 1) x1 x2 x3 x4 M = ((ok_X5_count (2 : Int32) M) ∧ (((fv_X5_count (2 : Int32) M).1 ≤ x4 → (ok_L_clerks_220 ps_FU x1 x2 x3 (0 : Int32) ((fv_X5_count (2 : Int32) M).2))) ∧ (¬ ((fv_X5_count (2 : Int32) M).1 ≤ x4) → ((ok_X5_clerk x4 (2 : Int32) ((fv_X5_count (2 : Int32) M).2)) ∧ ((ok_X5_clerk x4 (3 : Int32) ((fv_X5_count (2 : Int32) M).2)) ∧ ((ok_X5_clerk x4 (6 : Int32) ((fv_X5_count (2 : Int32) M).2)) ∧ ((ok_X5_clerk x4 (5 : Int32) ((fv_X5_count (2 : Int32) M).2)) ∧ (((fv_X5_clerk x4 (5 : Int32) ((fv_X5_count (2 : Int32) M).2)) = (1 : Int32) → (ok_L_clerks_63 (fun a1 a2 a3 a4 M => fv_L_clerks_9 n a1 a2 a3 a4 M) (fun a1 a2 a3 a4 M => ok_L_clerks_9 n a1 a2 a3 a4 M) x1 x2 x3 x4 (fv_X5_clerk x4 (2 : Int32) ((fv_X5_count (2 : Int32) M).2)) (fv_X5_clerk x4 (3 : Int32) ((fv_X5_count (2 : Int32) M).2)) (fv_X5_clerk x4 (6 : Int32) ((fv_X5_count (2 : Int32) M).2)) (1 : Int32) ((fv_X5_count (2 : Int32) M).2))) ∧ (¬ ((fv_X5_clerk x4 (5 : Int32) ((fv_X5_count (2 : Int32) M).2)) = (1 : Int32)) → (ok_L_clerks_63 (fun a1 a2 a3 a4 M => fv_L_clerks_9 n a1 a2 a3 a4 M) (fun a1 a2 a3 a4 M => ok_L_clerks_9 n a1 a2 a3 a4 M) x1 x2 x3 x4 (fv_X5_clerk x4 (2 : Int32) ((fv_X5_count (2 : Int32) M).2)) (fv_X5_clerk x4 (3 : Int32) ((fv_X5_count (2 : Int32) M).2)) (fv_X5_clerk x4 (6 : Int32) ((fv_X5_count (2 : Int32) M).2)) (0 : Int32) ((fv_X5_count (2 : Int32) M).2))))))))))) := rfl
set_option maxRecDepth 100000 in
set_option maxHeartbeats 4000000 in
theorem bw_L_clerks_9 {E : ps_E} {X : ps_X (Int32 × ps_M)} (C : ps_C (ps_Yc E) X cL_clerks RL (some .boolean) 4 86 9) (RT : ps_RI (ps_Yc E) X cL_clerks .boolean) : ∀ (n : Nat) (x1 : Int32) (x2 : Int32) (x3 : Int32) (x4 : Int32) (M : ps_M), ok_L_clerks_9 n x1 x2 x3 x4 M → ps_G (ps_Yc E) X (fv_L_clerks_9 n x1 x2 x3 x4 M) 9 [(0, .ref (ps_ad E 0)), (1, .int x1), (2, .int x2), (3, .int x3), (4, .int x4)] [] M := by
  intro n
  induction n with
  | zero => intro x1 x2 x3 x4 M h; exact h.elim
  | succ n ih =>
    intro x1 x2 x3 x4 M hk
    rw [fv_L_clerks_9_s]
    rw [ok_L_clerks_9_s] at hk
    refine gw_iload C 11 dL_clerks_9 4 rfl rfl ?_
    refine gw_aload_n C 12 dL_clerks_11 0 rfl rfl ?_
    refine gw_iconst C 13 dL_clerks_12 (v := 2) (by decide) rfl ?_
    refine gw_cVi C 16 dL_clerks_13 rfl yv_X5_count lk_L_13 [.int (2 : Int32)] [.int x4] rfl (ct_X5_count (E := E) (l := ps_l X) (2 : Int32) M hk.1) rc_P rfl (Nat.le_of_ble_eq_true rfl) (Nat.le_of_ble_eq_true rfl) (Nat.le_of_ble_eq_true rfl) ?_
    refine gw_ic_ge C 217 19 dL_clerks_16 (by decide) rfl (fun c16 => ?_) (fun c16 => ?_)
    · refine gw_iconst C 218 dL_clerks_217 (v := 0) (by decide) rfl ?_
      refine gw_istore C 220 dL_clerks_218 rfl [(0, .ref (ps_ad E 0)), (1, .int x1), (2, .int x2), (3, .int x3), (4, .int (0 : Int32))] [1, 2, 3, 4, 0] (by decide) rfl ?_
      exact bw_L_clerks_220 C RT  ps_FU x1 x2 x3 (0 : Int32) ((fv_X5_count (2 : Int32) M).2) (hk.2.1 c16)
    · refine gw_aload_n C 20 dL_clerks_19 0 rfl rfl ?_
      refine gw_iload C 22 dL_clerks_20 4 rfl rfl ?_
      refine gw_iconst C 23 dL_clerks_22 (v := 2) (by decide) rfl ?_
      refine gw_cVp C 26 dL_clerks_23 rfl yv_X5_clerk lk_L_29 [.int x4, .int (2 : Int32)] [] rfl (ct_X5_clerk (E := E) (l := ps_l X) x4 (2 : Int32) ((fv_X5_count (2 : Int32) M).2) (hk.2.2 c16).1) rc_P rfl (Nat.le_of_ble_eq_true rfl) (Nat.le_of_ble_eq_true rfl) (Nat.le_of_ble_eq_true rfl) ?_
      refine gw_istore C 28 dL_clerks_26 rfl [(0, .ref (ps_ad E 0)), (1, .int x1), (2, .int x2), (3, .int x3), (4, .int x4), (5, .int (fv_X5_clerk x4 (2 : Int32) ((fv_X5_count (2 : Int32) M).2)))] [1, 2, 3, 4, 5, 0] (by decide) rfl ?_
      refine gw_aload_n C 29 dL_clerks_28 0 rfl rfl ?_
      refine gw_iload C 31 dL_clerks_29 4 rfl rfl ?_
      refine gw_iconst C 32 dL_clerks_31 (v := 3) (by decide) rfl ?_
      refine gw_cVp C 35 dL_clerks_32 rfl yv_X5_clerk lk_L_29 [.int x4, .int (3 : Int32)] [] rfl (ct_X5_clerk (E := E) (l := ps_l X) x4 (3 : Int32) ((fv_X5_count (2 : Int32) M).2) (hk.2.2 c16).2.1) rc_P rfl (Nat.le_of_ble_eq_true rfl) (Nat.le_of_ble_eq_true rfl) (Nat.le_of_ble_eq_true rfl) ?_
      refine gw_istore C 37 dL_clerks_35 rfl [(0, .ref (ps_ad E 0)), (1, .int x1), (2, .int x2), (3, .int x3), (4, .int x4), (5, .int (fv_X5_clerk x4 (2 : Int32) ((fv_X5_count (2 : Int32) M).2))), (6, .int (fv_X5_clerk x4 (3 : Int32) ((fv_X5_count (2 : Int32) M).2)))] [1, 2, 3, 4, 5, 6, 0] (by decide) rfl ?_
      refine gw_aload_n C 38 dL_clerks_37 0 rfl rfl ?_
      refine gw_iload C 40 dL_clerks_38 4 rfl rfl ?_
      refine gw_bipush C 42 dL_clerks_40 (v := 6) (by decide) rfl ?_
      refine gw_cVp C 45 dL_clerks_42 rfl yv_X5_clerk lk_L_29 [.int x4, .int (6 : Int32)] [] rfl (ct_X5_clerk (E := E) (l := ps_l X) x4 (6 : Int32) ((fv_X5_count (2 : Int32) M).2) (hk.2.2 c16).2.2.1) rc_P rfl (Nat.le_of_ble_eq_true rfl) (Nat.le_of_ble_eq_true rfl) (Nat.le_of_ble_eq_true rfl) ?_
      refine gw_istore C 47 dL_clerks_45 rfl [(0, .ref (ps_ad E 0)), (1, .int x1), (2, .int x2), (3, .int x3), (4, .int x4), (5, .int (fv_X5_clerk x4 (2 : Int32) ((fv_X5_count (2 : Int32) M).2))), (6, .int (fv_X5_clerk x4 (3 : Int32) ((fv_X5_count (2 : Int32) M).2))), (7, .int (fv_X5_clerk x4 (6 : Int32) ((fv_X5_count (2 : Int32) M).2)))] [1, 2, 3, 4, 5, 6, 7, 0] (by decide) rfl ?_
      refine gw_aload_n C 48 dL_clerks_47 0 rfl rfl ?_
      refine gw_iload C 50 dL_clerks_48 4 rfl rfl ?_
      refine gw_iconst C 51 dL_clerks_50 (v := 5) (by decide) rfl ?_
      refine gw_cVp C 54 dL_clerks_51 rfl yv_X5_clerk lk_L_29 [.int x4, .int (5 : Int32)] [] rfl (ct_X5_clerk (E := E) (l := ps_l X) x4 (5 : Int32) ((fv_X5_count (2 : Int32) M).2) (hk.2.2 c16).2.2.2.1) rc_P rfl (Nat.le_of_ble_eq_true rfl) (Nat.le_of_ble_eq_true rfl) (Nat.le_of_ble_eq_true rfl) ?_
      refine gw_iconst C 55 dL_clerks_54 (v := 1) (by decide) rfl ?_
      refine gw_ic_ne C 62 58 dL_clerks_55 (by decide) rfl (fun c55 => ?_) (fun c55 => ?_)
      · refine gw_iconst C 59 dL_clerks_58 (v := 1) (by decide) rfl ?_
        refine gw_goto C 63 dL_clerks_59 (by decide) ?_
        exact bw_L_clerks_63 C RT _ _ (fun a1 a2 a3 a4  M h => ih a1 a2 a3 a4  M h) x1 x2 x3 x4 (fv_X5_clerk x4 (2 : Int32) ((fv_X5_count (2 : Int32) M).2)) (fv_X5_clerk x4 (3 : Int32) ((fv_X5_count (2 : Int32) M).2)) (fv_X5_clerk x4 (6 : Int32) ((fv_X5_count (2 : Int32) M).2)) (1 : Int32) ((fv_X5_count (2 : Int32) M).2) ((hk.2.2 c16).2.2.2.2.1 c55)
      · refine gw_iconst C 63 dL_clerks_62 (v := 0) (by decide) rfl ?_
        exact bw_L_clerks_63 C RT _ _ (fun a1 a2 a3 a4  M h => ih a1 a2 a3 a4  M h) x1 x2 x3 x4 (fv_X5_clerk x4 (2 : Int32) ((fv_X5_count (2 : Int32) M).2)) (fv_X5_clerk x4 (3 : Int32) ((fv_X5_count (2 : Int32) M).2)) (fv_X5_clerk x4 (6 : Int32) ((fv_X5_count (2 : Int32) M).2)) (0 : Int32) ((fv_X5_count (2 : Int32) M).2) ((hk.2.2 c16).2.2.2.2.2 c55)
def fv_L_clerks  (M : ps_M) : Int32 × ps_M := fv_L_clerks_9 ps_FU (0 : Int32) (0 : Int32) (0 : Int32) (0 : Int32) M
def ok_L_clerks  (M : ps_M) : Prop := ok_L_clerks_9 ps_FU (0 : Int32) (0 : Int32) (0 : Int32) (0 : Int32) M
set_option maxRecDepth 100000 in
set_option maxHeartbeats 4000000 in
theorem bw_L_clerks {E : ps_E} {X : ps_X (Int32 × ps_M)} (C : ps_C (ps_Yc E) X cL_clerks RL (some .boolean) 4 86 9) (RT : ps_RI (ps_Yc E) X cL_clerks .boolean)  (M : ps_M) (hk : ok_L_clerks  M) : ps_G (ps_Yc E) X (fv_L_clerks  M) 0 [(0, .ref (ps_ad E 0))] [] M := by
  unfold fv_L_clerks
  unfold ok_L_clerks at hk
  refine gw_iconst C 1 dL_clerks_0 (v := 0) (by decide) rfl ?_
  refine gw_istore_n C 2 dL_clerks_1 rfl [(0, .ref (ps_ad E 0)), (1, .int (0 : Int32))] [1, 0] (by decide) rfl ?_
  refine gw_iconst C 3 dL_clerks_2 (v := 0) (by decide) rfl ?_
  refine gw_istore_n C 4 dL_clerks_3 rfl [(0, .ref (ps_ad E 0)), (1, .int (0 : Int32)), (2, .int (0 : Int32))] [1, 2, 0] (by decide) rfl ?_
  refine gw_iconst C 5 dL_clerks_4 (v := 0) (by decide) rfl ?_
  refine gw_istore_n C 6 dL_clerks_5 rfl [(0, .ref (ps_ad E 0)), (1, .int (0 : Int32)), (2, .int (0 : Int32)), (3, .int (0 : Int32))] [1, 2, 3, 0] (by decide) rfl ?_
  refine gw_iconst C 7 dL_clerks_6 (v := 0) (by decide) rfl ?_
  refine gw_istore C 9 dL_clerks_7 rfl [(0, .ref (ps_ad E 0)), (1, .int (0 : Int32)), (2, .int (0 : Int32)), (3, .int (0 : Int32)), (4, .int (0 : Int32))] [1, 2, 3, 4, 0] (by decide) rfl ?_
  exact bw_L_clerks_9 C RT  ps_FU (0 : Int32) (0 : Int32) (0 : Int32) (0 : Int32) M hk
theorem ct_L_clerks {E : ps_E} {l : Launch}   (M : ps_M) (hk : ok_L_clerks  M) : ps_CI (ps_Yc E) l yL_clerks cL_clerks 9 (some .boolean) 4 86 [.ref (ps_ad E 0)] M (fv_L_clerks  M) := ps_metI RL (by decide) rfl (Nat.le_of_ble_eq_true rfl) rfl (fun X _ C RT => bw_L_clerks C RT M hk)
