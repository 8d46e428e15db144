def fv_X1_copyFrom_24 (k0 : Nat) (k1 : Nat) (M : ps_M) : ps_M := (ps_st (ps_st (ps_st M k0 3 (M k1 3)) k0 4 ((ps_st M k0 3 (M k1 3)) k1 4)) k0 5 ((ps_st (ps_st M k0 3 (M k1 3)) k0 4 ((ps_st M k0 3 (M k1 3)) k1 4)) k1 5))
def ok_X1_copyFrom_24 (k0 : Nat) (k1 : Nat) (M : ps_M) : Prop := True
set_option maxRecDepth 100000 in
set_option maxHeartbeats 4000000 in
theorem bw_X1_copyFrom_24 {E : ps_E} {X : ps_X ps_M} (C : ps_C (ps_Yc E) X cX1_copyFrom RX1 none 0 0 2) (RT : ps_RV (ps_Yc E) X cX1_copyFrom) (k0 : Nat) (k1 : Nat) (hk0 : ps_kd k0 = 7) (hk1 : ps_kd k1 = 7) (M : ps_M) (hk : ok_X1_copyFrom_24 k0 k1 M) : ps_G (ps_Yc E) X (fv_X1_copyFrom_24 k0 k1 M) 24 [(0, .ref (ps_ad E k0)), (1, .ref (ps_ad E k1))] [] M := by
  unfold fv_X1_copyFrom_24
  unfold ok_X1_copyFrom_24 at hk
  refine gw_aload_n C 25 dX1_copyFrom_24 0 rfl rfl ?_
  refine gw_aload_n C 26 dX1_copyFrom_25 1 rfl rfl ?_
  refine gf_X1_21 C 29 dX1_copyFrom_26 rfl hk1 ?_
  refine pf_X1_21 C 32 dX1_copyFrom_29 rfl hk0 ?_
  refine gw_aload_n C 33 dX1_copyFrom_32 0 rfl rfl ?_
  refine gw_aload_n C 34 dX1_copyFrom_33 1 rfl rfl ?_
  refine gf_X1_24 C 37 dX1_copyFrom_34 rfl hk1 ?_
  refine pf_X1_24 C 40 dX1_copyFrom_37 rfl hk0 ?_
  refine gw_aload_n C 41 dX1_copyFrom_40 0 rfl rfl ?_
  refine gw_aload_n C 42 dX1_copyFrom_41 1 rfl rfl ?_
  refine gf_X1_27 C 45 dX1_copyFrom_42 rfl hk1 ?_
  refine pf_X1_27 C 48 dX1_copyFrom_45 rfl hk0 ?_
  exact RT _ _ _ dX1_copyFrom_48
def fv_X1_copyFrom (k0 : Nat) (k1 : Nat) (M : ps_M) : ps_M := fv_X1_copyFrom_24 k0 k1 (ps_st (ps_st (ps_st M k0 0 (M k1 0)) k0 1 ((ps_st M k0 0 (M k1 0)) k1 1)) k0 2 ((ps_st (ps_st M k0 0 (M k1 0)) k0 1 ((ps_st M k0 0 (M k1 0)) k1 1)) k1 2))
def ok_X1_copyFrom (k0 : Nat) (k1 : Nat) (M : ps_M) : Prop := ok_X1_copyFrom_24 k0 k1 (ps_st (ps_st (ps_st M k0 0 (M k1 0)) k0 1 ((ps_st M k0 0 (M k1 0)) k1 1)) k0 2 ((ps_st (ps_st M k0 0 (M k1 0)) k0 1 ((ps_st M k0 0 (M k1 0)) k1 1)) k1 2))
set_option maxRecDepth 100000 in
set_option maxHeartbeats 4000000 in
theorem bw_X1_copyFrom {E : ps_E} {X : ps_X ps_M} (C : ps_C (ps_Yc E) X cX1_copyFrom RX1 none 0 0 2) (RT : ps_RV (ps_Yc E) X cX1_copyFrom) (k0 : Nat) (k1 : Nat) (hk0 : ps_kd k0 = 7) (hk1 : ps_kd k1 = 7) (M : ps_M) (hk : ok_X1_copyFrom k0 k1 M) : ps_G (ps_Yc E) X (fv_X1_copyFrom k0 k1 M) 0 [(0, .ref (ps_ad E k0)), (1, .ref (ps_ad E k1))] [] M := by
  unfold fv_X1_copyFrom
  unfold ok_X1_copyFrom at hk
  refine gw_aload_n C 1 dX1_copyFrom_0 0 rfl rfl ?_
  refine gw_aload_n C 2 dX1_copyFrom_1 1 rfl rfl ?_
  refine gf_X1_15 C 5 dX1_copyFrom_2 rfl hk1 ?_
  refine pf_X1_15 C 8 dX1_copyFrom_5 rfl hk0 ?_
  refine gw_aload_n C 9 dX1_copyFrom_8 0 rfl rfl ?_
  refine gw_aload_n C 10 dX1_copyFrom_9 1 rfl rfl ?_
  refine gf_X1_18 C 13 dX1_copyFrom_10 rfl hk1 ?_
  refine pf_X1_18 C 16 dX1_copyFrom_13 rfl hk0 ?_
  refine gw_aload_n C 17 dX1_copyFrom_16 0 rfl rfl ?_
  refine gw_aload_n C 18 dX1_copyFrom_17 1 rfl rfl ?_
  refine gf_X1_9 C 21 dX1_copyFrom_18 rfl hk1 ?_
  refine pf_X1_9 C 24 dX1_copyFrom_21 rfl hk0 ?_
  exact bw_X1_copyFrom_24 C RT  k0 k1 hk0 hk1 (ps_st (ps_st (ps_st M k0 0 (M k1 0)) k0 1 ((ps_st M k0 0 (M k1 0)) k1 1)) k0 2 ((ps_st (ps_st M k0 0 (M k1 0)) k0 1 ((ps_st M k0 0 (M k1 0)) k1 1)) k1 2)) hk
theorem ct_X1_copyFrom {E : ps_E} {l : Launch} (k0 : Nat) (k1 : Nat) (hk0 : ps_kd k0 = 7) (hk1 : ps_kd k1 = 7) (M : ps_M) (hk : ok_X1_copyFrom k0 k1 M) : ps_CV (ps_Yc E) l yX1_copyFrom cX1_copyFrom 2 0 0 [.ref (ps_ad E k0), .ref (ps_ad E k1)] M (fv_X1_copyFrom k0 k1 M) := ps_metV RX1 (by decide) rfl (Nat.le_of_ble_eq_true rfl) rfl (fun X _ C RT => bw_X1_copyFrom C RT k0 k1 hk0 hk1 M hk)
def fv_X1_isOnDuty (k0 : Nat) (M : ps_M) : Int32 := if (M k0 2) = (-5 : Int32) then ((0 : Int32)) else ((1 : Int32))
def ok_X1_isOnDuty (k0 : Nat) (M : ps_M) : Prop := True
set_option maxRecDepth 100000 in
set_option maxHeartbeats 4000000 in
theorem bw_X1_isOnDuty {E : ps_E} {X : ps_X (Int32 × ps_M)} (C : ps_C (ps_Yc E) X cX1_isOnDuty RX1 (some .boolean) 0 0 1) (RT : ps_RI (ps_Yc E) X cX1_isOnDuty .boolean) (M : ps_M) (k0 : Nat) (hk0 : ps_kd k0 = 7) (hk : ok_X1_isOnDuty k0 M) : ps_G (ps_Yc E) X (fv_X1_isOnDuty k0 M, M) 0 [(0, .ref (ps_ad E k0))] [] M := by
  unfold fv_X1_isOnDuty
  unfold ok_X1_isOnDuty at hk
  refine gw_aload_n C 1 dX1_isOnDuty_0 0 rfl rfl ?_
  refine gf_X1_9 C 4 dX1_isOnDuty_1 rfl hk0 ?_
  refine gw_bipush C 6 dX1_isOnDuty_4 (v := (-5)) (by decide) rfl ?_
  refine gw_ic_eqP C 13 9 dX1_isOnDuty_6 (by decide) rfl (fun c6 => ?_) (fun c6 => ?_)
  · refine gw_iconst C 14 dX1_isOnDuty_13 (v := 0) (by decide) rfl ?_
    exact RT _ _ _ _ dX1_isOnDuty_14 ps_nb0
  · refine gw_iconst C 10 dX1_isOnDuty_9 (v := 1) (by decide) rfl ?_
    refine gw_goto C 14 dX1_isOnDuty_10 (by decide) ?_
    exact RT _ _ _ _ dX1_isOnDuty_14 ps_nb1
theorem ct_X1_isOnDuty {E : ps_E} {l : Launch} (k0 : Nat) (hk0 : ps_kd k0 = 7) (M : ps_M) (hk : ok_X1_isOnDuty k0 M) : ps_CI (ps_Yc E) l yX1_isOnDuty cX1_isOnDuty 1 (some .boolean) 0 0 [.ref (ps_ad E k0)] M (fv_X1_isOnDuty k0 M, M) := ps_metI RX1 (by decide) rfl (Nat.le_of_ble_eq_true rfl) rfl (fun X _ C RT => bw_X1_isOnDuty C RT M k0 hk0 hk)
def fv_X1_rests (k0 : Nat) (M : ps_M) : Int32 := if (M k0 5) ≤ 0 then ((0 : Int32)) else ((1 : Int32))
def ok_X1_rests (k0 : Nat) (M : ps_M) : Prop := True
set_option maxRecDepth 100000 in
set_option maxHeartbeats 4000000 in
theorem bw_X1_rests {E : ps_E} {X : ps_X (Int32 × ps_M)} (C : ps_C (ps_Yc E) X cX1_rests RX1 (some .boolean) 0 0 1) (RT : ps_RI (ps_Yc E) X cX1_rests .boolean) (M : ps_M) (k0 : Nat) (hk0 : ps_kd k0 = 7) (hk : ok_X1_rests k0 M) : ps_G (ps_Yc E) X (fv_X1_rests k0 M, M) 0 [(0, .ref (ps_ad E k0))] [] M := by
  unfold fv_X1_rests
  unfold ok_X1_rests at hk
  refine gw_aload_n C 1 dX1_rests_0 0 rfl rfl ?_
  refine gf_X1_27 C 4 dX1_rests_1 rfl hk0 ?_
  refine gw_if_leP C 11 7 dX1_rests_4 (by decide) rfl (fun c4 => ?_) (fun c4 => ?_)
  · refine gw_iconst C 12 dX1_rests_11 (v := 0) (by decide) rfl ?_
    exact RT _ _ _ _ dX1_rests_12 ps_nb0
  · refine gw_iconst C 8 dX1_rests_7 (v := 1) (by decide) rfl ?_
    refine gw_goto C 12 dX1_rests_8 (by decide) ?_
    exact RT _ _ _ _ dX1_rests_12 ps_nb1
theorem ct_X1_rests {E : ps_E} {l : Launch} (k0 : Nat) (hk0 : ps_kd k0 = 7) (M : ps_M) (hk : ok_X1_rests k0 M) : ps_CI (ps_Yc E) l yX1_rests cX1_rests 1 (some .boolean) 0 0 [.ref (ps_ad E k0)] M (fv_X1_rests k0 M, M) := ps_metI RX1 (by decide) rfl (Nat.le_of_ble_eq_true rfl) rfl (fun X _ C RT => bw_X1_rests C RT M k0 hk0 hk)
def fv_X1_isFree (k0 : Nat) (M : ps_M) : Int32 := if (fv_X1_isOnDuty k0 M) = 0 then (if (fv_X1_rests k0 M) = 0 then ((1 : Int32)) else ((0 : Int32))) else ((0 : Int32))
def ok_X1_isFree (k0 : Nat) (M : ps_M) : Prop := (ok_X1_isOnDuty k0 M) ∧ (((fv_X1_isOnDuty k0 M) = 0 → ((ok_X1_rests k0 M) ∧ True)) ∧ (¬ ((fv_X1_isOnDuty k0 M) = 0) → True))
set_option maxRecDepth 100000 in
set_option maxHeartbeats 4000000 in
theorem bw_X1_isFree {E : ps_E} {X : ps_X (Int32 × ps_M)} (C : ps_C (ps_Yc E) X cX1_isFree RX1 (some .boolean) 1 20 1) (RT : ps_RI (ps_Yc E) X cX1_isFree .boolean) (M : ps_M) (k0 : Nat) (hk0 : ps_kd k0 = 7) (hk : ok_X1_isFree k0 M) : ps_G (ps_Yc E) X (fv_X1_isFree k0 M, M) 0 [(0, .ref (ps_ad E k0))] [] M := by
  unfold fv_X1_isFree
  unfold ok_X1_isFree at hk
  refine gw_aload_n C 1 dX1_isFree_0 0 rfl rfl ?_
  refine gw_cVp C 4 dX1_isFree_1 rfl yv_X1_isOnDuty lk_X1_30 [] [] rfl (ct_X1_isOnDuty (E := E) (l := ps_l X) k0 hk0 M hk.1) (rc_K hk0) rfl (Nat.le_of_ble_eq_true rfl) (Nat.le_of_ble_eq_true rfl) (Nat.le_of_ble_eq_true rfl) ?_
  refine gw_if_neP C 18 7 dX1_isFree_4 (by decide) rfl (fun c4 => ?_) (fun c4 => ?_)
  · refine gw_aload_n C 8 dX1_isFree_7 0 rfl rfl ?_
    refine gw_cVp C 11 dX1_isFree_8 rfl yv_X1_rests lk_X1_34 [] [] rfl (ct_X1_rests (E := E) (l := ps_l X) k0 hk0 M (hk.2.1 c4).1) (rc_K hk0) rfl (Nat.le_of_ble_eq_true rfl) (Nat.le_of_ble_eq_true rfl) (Nat.le_of_ble_eq_true rfl) ?_
    refine gw_if_neP C 18 14 dX1_isFree_11 (by decide) rfl (fun c11 => ?_) (fun c11 => ?_)
    · refine gw_iconst C 15 dX1_isFree_14 (v := 1) (by decide) rfl ?_
      refine gw_goto C 19 dX1_isFree_15 (by decide) ?_
      exact RT _ _ _ _ dX1_isFree_19 ps_nb1
    · refine gw_iconst C 19 dX1_isFree_18 (v := 0) (by decide) rfl ?_
      exact RT _ _ _ _ dX1_isFree_19 ps_nb0
  · refine gw_iconst C 19 dX1_isFree_18 (v := 0) (by decide) rfl ?_
    exact RT _ _ _ _ dX1_isFree_19 ps_nb0
theorem ct_X1_isFree {E : ps_E} {l : Launch} (k0 : Nat) (hk0 : ps_kd k0 = 7) (M : ps_M) (hk : ok_X1_isFree k0 M) : ps_CI (ps_Yc E) l yX1_isFree cX1_isFree 1 (some .boolean) 1 20 [.ref (ps_ad E k0)] M (fv_X1_isFree k0 M, M) := ps_metI RX1 (by decide) rfl (Nat.le_of_ble_eq_true rfl) rfl (fun X _ C RT => bw_X1_isFree C RT M k0 hk0 hk)
def fv_X1_comeTo (k0 : Nat) (x1 : Int32) (M : ps_M) : ps_M := (ps_st M k0 2 x1)
def ok_X1_comeTo (k0 : Nat) (x1 : Int32) (M : ps_M) : Prop := True
set_option maxRecDepth 100000 in
set_option maxHeartbeats 4000000 in
theorem bw_X1_comeTo {E : ps_E} {X : ps_X ps_M} (C : ps_C (ps_Yc E) X cX1_comeTo RX1 none 0 0 2) (RT : ps_RV (ps_Yc E) X cX1_comeTo) (k0 : Nat) (x1 : Int32) (hk0 : ps_kd k0 = 7) (M : ps_M) (hk : ok_X1_comeTo k0 x1 M) : ps_G (ps_Yc E) X (fv_X1_comeTo k0 x1 M) 0 [(0, .ref (ps_ad E k0)), (1, .int x1)] [] M := by
  unfold fv_X1_comeTo
  unfold ok_X1_comeTo at hk
  refine gw_aload_n C 1 dX1_comeTo_0 0 rfl rfl ?_
  refine gw_iload_n C 2 dX1_comeTo_1 1 rfl rfl ?_
  refine pf_X1_9 C 5 dX1_comeTo_2 rfl hk0 ?_
  exact RT _ _ _ dX1_comeTo_5
theorem ct_X1_comeTo {E : ps_E} {l : Launch} (k0 : Nat) (x1 : Int32) (hk0 : ps_kd k0 = 7) (M : ps_M) (hk : ok_X1_comeTo k0 x1 M) : ps_CV (ps_Yc E) l yX1_comeTo cX1_comeTo 2 0 0 [.ref (ps_ad E k0), .int x1] M (fv_X1_comeTo k0 x1 M) := ps_metV RX1 (by decide) rfl (Nat.le_of_ble_eq_true rfl) rfl (fun X _ C RT => bw_X1_comeTo C RT k0 x1 hk0 M hk)
def fv_X1_leaveDuty (k0 : Nat) (x1 : Int32) (M : ps_M) : ps_M := (ps_st (ps_st (ps_st M k0 2 (-5 : Int32)) k0 3 (0 : Int32)) k0 5 x1)
def ok_X1_leaveDuty (k0 : Nat) (x1 : Int32) (M : ps_M) : Prop := True
set_option maxRecDepth 100000 in
set_option maxHeartbeats 4000000 in
theorem bw_X1_leaveDuty {E : ps_E} {X : ps_X ps_M} (C : ps_C (ps_Yc E) X cX1_leaveDuty RX1 none 0 0 2) (RT : ps_RV (ps_Yc E) X cX1_leaveDuty) (k0 : Nat) (x1 : Int32) (hk0 : ps_kd k0 = 7) (M : ps_M) (hk : ok_X1_leaveDuty k0 x1 M) : ps_G (ps_Yc E) X (fv_X1_leaveDuty k0 x1 M) 0 [(0, .ref (ps_ad E k0)), (1, .int x1)] [] M := by
  unfold fv_X1_leaveDuty
  unfold ok_X1_leaveDuty at hk
  refine gw_aload_n C 1 dX1_leaveDuty_0 0 rfl rfl ?_
  refine gw_bipush C 3 dX1_leaveDuty_1 (v := (-5)) (by decide) rfl ?_
  refine pf_X1_9 C 6 dX1_leaveDuty_3 rfl hk0 ?_
  refine gw_aload_n C 7 dX1_leaveDuty_6 0 rfl rfl ?_
  refine gw_iconst C 8 dX1_leaveDuty_7 (v := 0) (by decide) rfl ?_
  refine pf_X1_21 C 11 dX1_leaveDuty_8 rfl hk0 ?_
  refine gw_aload_n C 12 dX1_leaveDuty_11 0 rfl rfl ?_
  refine gw_iload_n C 13 dX1_leaveDuty_12 1 rfl rfl ?_
  refine pf_X1_27 C 16 dX1_leaveDuty_13 rfl hk0 ?_
  exact RT _ _ _ dX1_leaveDuty_16
theorem ct_X1_leaveDuty {E : ps_E} {l : Launch} (k0 : Nat) (x1 : Int32) (hk0 : ps_kd k0 = 7) (M : ps_M) (hk : ok_X1_leaveDuty k0 x1 M) : ps_CV (ps_Yc E) l yX1_leaveDuty cX1_leaveDuty 2 0 0 [.ref (ps_ad E k0), .int x1] M (fv_X1_leaveDuty k0 x1 M) := ps_metV RX1 (by decide) rfl (Nat.le_of_ble_eq_true rfl) rfl (fun X _ C RT => bw_X1_leaveDuty C RT k0 x1 hk0 M hk)
def fv_X1_mustLeave (k0 : Nat) (M : ps_M) : Int32 := if (fv_X1_isOnDuty k0 M) = 0 then ((0 : Int32)) else (if (M k0 3) < (M k0 1) then ((0 : Int32)) else ((1 : Int32)))
def ok_X1_mustLeave (k0 : Nat) (M : ps_M) : Prop := (ok_X1_isOnDuty k0 M) ∧ True
set_option maxRecDepth 100000 in
set_option maxHeartbeats 4000000 in
theorem bw_X1_mustLeave {E : ps_E} {X : ps_X (Int32 × ps_M)} (C : ps_C (ps_Yc E) X cX1_mustLeave RX1 (some .boolean) 1 20 1) (RT : ps_RI (ps_Yc E) X cX1_mustLeave .boolean) (M : ps_M) (k0 : Nat) (hk0 : ps_kd k0 = 7) (hk : ok_X1_mustLeave k0 M) : ps_G (ps_Yc E) X (fv_X1_mustLeave k0 M, M) 0 [(0, .ref (ps_ad E k0))] [] M := by
  unfold fv_X1_mustLeave
  unfold ok_X1_mustLeave at hk
  refine gw_aload_n C 1 dX1_mustLeave_0 0 rfl rfl ?_
  refine gw_cVp C 4 dX1_mustLeave_1 rfl yv_X1_isOnDuty lk_X1_30 [] [] rfl (ct_X1_isOnDuty (E := E) (l := ps_l X) k0 hk0 M hk.1) (rc_K hk0) rfl (Nat.le_of_ble_eq_true rfl) (Nat.le_of_ble_eq_true rfl) (Nat.le_of_ble_eq_true rfl) ?_
  refine gw_if_eqP C 22 7 dX1_mustLeave_4 (by decide) rfl (fun c4 => ?_) (fun c4 => ?_)
  · refine gw_iconst C 23 dX1_mustLeave_22 (v := 0) (by decide) rfl ?_
    exact RT _ _ _ _ dX1_mustLeave_23 ps_nb0
  · refine gw_aload_n C 8 dX1_mustLeave_7 0 rfl rfl ?_
    refine gf_X1_21 C 11 dX1_mustLeave_8 rfl hk0 ?_
    refine gw_aload_n C 12 dX1_mustLeave_11 0 rfl rfl ?_
    refine gf_X1_18 C 15 dX1_mustLeave_12 rfl hk0 ?_
    refine gw_ic_ltP C 22 18 dX1_mustLeave_15 (by decide) rfl (fun c15 => ?_) (fun c15 => ?_)
    · refine gw_iconst C 23 dX1_mustLeave_22 (v := 0) (by decide) rfl ?_
      exact RT _ _ _ _ dX1_mustLeave_23 ps_nb0
    · refine gw_iconst C 19 dX1_mustLeave_18 (v := 1) (by decide) rfl ?_
      refine gw_goto C 23 dX1_mustLeave_19 (by decide) ?_
      exact RT _ _ _ _ dX1_mustLeave_23 ps_nb1
theorem ct_X1_mustLeave {E : ps_E} {l : Launch} (k0 : Nat) (hk0 : ps_kd k0 = 7) (M : ps_M) (hk : ok_X1_mustLeave k0 M) : ps_CI (ps_Yc E) l yX1_mustLeave cX1_mustLeave 1 (some .boolean) 1 20 [.ref (ps_ad E k0)] M (fv_X1_mustLeave k0 M, M) := ps_metI RX1 (by decide) rfl (Nat.le_of_ble_eq_true rfl) rfl (fun X _ C RT => bw_X1_mustLeave C RT M k0 hk0 hk)
def fv_X1_endHour_27 (k0 : Nat) (M : ps_M) : ps_M := if (fv_X1_rests k0 M) = 0 then M else ((ps_st M k0 5 ((M k0 5) - (1 : Int32))))
def ok_X1_endHour_27 (k0 : Nat) (M : ps_M) : Prop := (ok_X1_rests k0 M) ∧ True
set_option maxRecDepth 100000 in
set_option maxHeartbeats 4000000 in
theorem bw_X1_endHour_27 {E : ps_E} {X : ps_X ps_M} (C : ps_C (ps_Yc E) X cX1_endHour RX1 none 1 20 1) (RT : ps_RV (ps_Yc E) X cX1_endHour) (k0 : Nat) (hk0 : ps_kd k0 = 7) (M : ps_M) (hk : ok_X1_endHour_27 k0 M) : ps_G (ps_Yc E) X (fv_X1_endHour_27 k0 M) 27 [(0, .ref (ps_ad E k0))] [] M := by
  unfold fv_X1_endHour_27
  unfold ok_X1_endHour_27 at hk
  refine gw_aload_n C 28 dX1_endHour_27 0 rfl rfl ?_
  refine gw_cVp C 31 dX1_endHour_28 rfl yv_X1_rests lk_X1_34 [] [] rfl (ct_X1_rests (E := E) (l := ps_l X) k0 hk0 M hk.1) (rc_K hk0) rfl (Nat.le_of_ble_eq_true rfl) (Nat.le_of_ble_eq_true rfl) (Nat.le_of_ble_eq_true rfl) ?_
  refine gw_if_eq C 44 34 dX1_endHour_31 (by decide) rfl (fun c31 => ?_) (fun c31 => ?_)
  · exact RT _ _ _ dX1_endHour_44
  · refine gw_aload_n C 35 dX1_endHour_34 0 rfl rfl ?_
    refine gw_dup C 36 dX1_endHour_35 rfl rfl ?_
    refine gf_X1_27 C 39 dX1_endHour_36 rfl hk0 ?_
    refine gw_iconst C 40 dX1_endHour_39 (v := 1) (by decide) rfl ?_
    refine gw_isub C 41 dX1_endHour_40 rfl ?_
    refine pf_X1_27 C 44 dX1_endHour_41 rfl hk0 ?_
    exact RT _ _ _ dX1_endHour_44
def fv_X1_endHour (k0 : Nat) (M : ps_M) : ps_M := if (fv_X1_isOnDuty k0 M) = 0 then (fv_X1_endHour_27 k0 M) else (fv_X1_endHour_27 k0 (ps_st (ps_st M k0 4 ((M k0 4) + (1 : Int32))) k0 3 (((ps_st M k0 4 ((M k0 4) + (1 : Int32))) k0 3) + (1 : Int32))))
def ok_X1_endHour (k0 : Nat) (M : ps_M) : Prop := (ok_X1_isOnDuty k0 M) ∧ (((fv_X1_isOnDuty k0 M) = 0 → (ok_X1_endHour_27 k0 M)) ∧ (¬ ((fv_X1_isOnDuty k0 M) = 0) → (ok_X1_endHour_27 k0 (ps_st (ps_st M k0 4 ((M k0 4) + (1 : Int32))) k0 3 (((ps_st M k0 4 ((M k0 4) + (1 : Int32))) k0 3) + (1 : Int32))))))
set_option maxRecDepth 100000 in
set_option maxHeartbeats 4000000 in
theorem bw_X1_endHour {E : ps_E} {X : ps_X ps_M} (C : ps_C (ps_Yc E) X cX1_endHour RX1 none 1 20 1) (RT : ps_RV (ps_Yc E) X cX1_endHour) (k0 : Nat) (hk0 : ps_kd k0 = 7) (M : ps_M) (hk : ok_X1_endHour k0 M) : ps_G (ps_Yc E) X (fv_X1_endHour k0 M) 0 [(0, .ref (ps_ad E k0))] [] M := by
  unfold fv_X1_endHour
  unfold ok_X1_endHour at hk
  refine gw_aload_n C 1 dX1_endHour_0 0 rfl rfl ?_
  refine gw_cVp C 4 dX1_endHour_1 rfl yv_X1_isOnDuty lk_X1_30 [] [] rfl (ct_X1_isOnDuty (E := E) (l := ps_l X) k0 hk0 M hk.1) (rc_K hk0) rfl (Nat.le_of_ble_eq_true rfl) (Nat.le_of_ble_eq_true rfl) (Nat.le_of_ble_eq_true rfl) ?_
  refine gw_if_eq C 27 7 dX1_endHour_4 (by decide) rfl (fun c4 => ?_) (fun c4 => ?_)
  · exact bw_X1_endHour_27 C RT  k0 hk0 M (hk.2.1 c4)
  · refine gw_aload_n C 8 dX1_endHour_7 0 rfl rfl ?_
    refine gw_dup C 9 dX1_endHour_8 rfl rfl ?_
    refine gf_X1_24 C 12 dX1_endHour_9 rfl hk0 ?_
    refine gw_iconst C 13 dX1_endHour_12 (v := 1) (by decide) rfl ?_
    refine gw_iadd C 14 dX1_endHour_13 rfl ?_
    refine pf_X1_24 C 17 dX1_endHour_14 rfl hk0 ?_
    refine gw_aload_n C 18 dX1_endHour_17 0 rfl rfl ?_
    refine gw_dup C 19 dX1_endHour_18 rfl rfl ?_
    refine gf_X1_21 C 22 dX1_endHour_19 rfl hk0 ?_
    refine gw_iconst C 23 dX1_endHour_22 (v := 1) (by decide) rfl ?_
    refine gw_iadd C 24 dX1_endHour_23 rfl ?_
    refine pf_X1_21 C 27 dX1_endHour_24 rfl hk0 ?_
    exact bw_X1_endHour_27 C RT  k0 hk0 (ps_st (ps_st M k0 4 ((M k0 4) + (1 : Int32))) k0 3 (((ps_st M k0 4 ((M k0 4) + (1 : Int32))) k0 3) + (1 : Int32))) (hk.2.2 c4)
theorem ct_X1_endHour {E : ps_E} {l : Launch} (k0 : Nat) (hk0 : ps_kd k0 = 7) (M : ps_M) (hk : ok_X1_endHour k0 M) : ps_CV (ps_Yc E) l yX1_endHour cX1_endHour 1 1 20 [.ref (ps_ad E k0)] M (fv_X1_endHour k0 M) := ps_metV RX1 (by decide) rfl (Nat.le_of_ble_eq_true rfl) rfl (fun X _ C RT => bw_X1_endHour C RT k0 hk0 M hk)
