def fv_X5_addStation  (M : ps_M) : Int32 × ps_M := if (M 1 1) < (6 : Int32) then (((((ps_st (fv_X3_remember 1 M) 1 1 (((fv_X3_remember 1 M) 1 1) + (1 : Int32))) 1 1) - (1 : Int32)), (ps_st (fv_X3_remember 1 M) 1 1 (((fv_X3_remember 1 M) 1 1) + (1 : Int32))))) else (((-3 : Int32), M))
def ok_X5_addStation  (M : ps_M) : Prop := ((M 1 1) < (6 : Int32) → ((ok_X3_remember 1 M) ∧ True)) ∧ (¬ ((M 1 1) < (6 : Int32)) → True)
set_option maxRecDepth 100000 in
set_option maxHeartbeats 4000000 in
theorem bw_X5_addStation {E : ps_E} {X : ps_X (Int32 × ps_M)} (C : ps_C (ps_Yc E) X cX5_addStation RX5 (some .int) 4 82 1) (RT : ps_RI (ps_Yc E) X cX5_addStation .int)  (M : ps_M) (hk : ok_X5_addStation  M) : ps_G (ps_Yc E) X (fv_X5_addStation  M) 0 [(0, .ref (ps_ad E 0))] [] M := by
  unfold fv_X5_addStation
  unfold ok_X5_addStation at hk
  refine gw_aload_n C 1 dX5_addStation_0 0 rfl rfl ?_
  refine gf_X5_12 C 4 dX5_addStation_1 rfl ?_
  refine gf_X5_43 C 7 dX5_addStation_4 rfl kd_1 ?_
  refine gw_bipush C 9 dX5_addStation_7 (v := 6) (by decide) rfl ?_
  refine gw_ic_lt C 15 12 dX5_addStation_9 (by decide) rfl (fun c9 => ?_) (fun c9 => ?_)
  · refine gw_aload_n C 16 dX5_addStation_15 0 rfl rfl ?_
    refine gf_X5_32 C 19 dX5_addStation_16 rfl ?_
    refine gw_aload_n C 20 dX5_addStation_19 0 rfl rfl ?_
    refine gf_X5_12 C 23 dX5_addStation_20 rfl ?_
    refine gw_cVv C 26 dX5_addStation_23 rfl yv_X3_remember lk_X5_47 [.ref (ps_ad E 1)] [] rfl (ct_X3_remember (E := E) (l := ps_l X) 1 kd_1 M (hk.1 c9).1) rc_H rfl (Nat.le_of_ble_eq_true rfl) (Nat.le_of_ble_eq_true rfl) (Nat.le_of_ble_eq_true rfl) ?_
    refine gw_aload_n C 27 dX5_addStation_26 0 rfl rfl ?_
    refine gf_X5_12 C 30 dX5_addStation_27 rfl ?_
    refine gw_dup C 31 dX5_addStation_30 rfl rfl ?_
    refine gf_X5_43 C 34 dX5_addStation_31 rfl kd_1 ?_
    refine gw_iconst C 35 dX5_addStation_34 (v := 1) (by decide) rfl ?_
    refine gw_iadd C 36 dX5_addStation_35 rfl ?_
    refine pf_X5_43 C 39 dX5_addStation_36 rfl kd_1 ?_
    refine gw_aload_n C 40 dX5_addStation_39 0 rfl rfl ?_
    refine gf_X5_12 C 43 dX5_addStation_40 rfl ?_
    refine gf_X5_43 C 46 dX5_addStation_43 rfl kd_1 ?_
    refine gw_iconst C 47 dX5_addStation_46 (v := 1) (by decide) rfl ?_
    refine gw_isub C 48 dX5_addStation_47 rfl ?_
    exact RT _ _ _ _ dX5_addStation_48 rfl
  · refine gw_bipush C 14 dX5_addStation_12 (v := (-3)) (by decide) rfl ?_
    exact RT _ _ _ _ dX5_addStation_14 rfl
theorem ct_X5_addStation {E : ps_E} {l : Launch}   (M : ps_M) (hk : ok_X5_addStation  M) : ps_CI (ps_Yc E) l yX5_addStation cX5_addStation 1 (some .int) 4 82 [.ref (ps_ad E 0)] M (fv_X5_addStation  M) := ps_metI RX5 (by decide) rfl (Nat.le_of_ble_eq_true rfl) rfl (fun X _ C RT => bw_X5_addStation C RT M hk)
def fv_X5_isWithin (x0 : Int32) (x1 : Int32) (x2 : Int32) (M : ps_M) : Int32 := if x0 < x1 then ((0 : Int32)) else (if x2 < x0 then ((0 : Int32)) else ((1 : Int32)))
def ok_X5_isWithin (x0 : Int32) (x1 : Int32) (x2 : Int32) (M : ps_M) : Prop := True
set_option maxRecDepth 100000 in
set_option maxHeartbeats 4000000 in
theorem bw_X5_isWithin {E : ps_E} {X : ps_X (Int32 × ps_M)} (C : ps_C (ps_Yc E) X cX5_isWithin RX5 (some .boolean) 0 0 3) (RT : ps_RI (ps_Yc E) X cX5_isWithin .boolean) (M : ps_M) (x0 : Int32) (x1 : Int32) (x2 : Int32) (hk : ok_X5_isWithin x0 x1 x2 M) : ps_G (ps_Yc E) X (fv_X5_isWithin x0 x1 x2 M, M) 0 [(0, .int x0), (1, .int x1), (2, .int x2)] [] M := by
  unfold fv_X5_isWithin
  unfold ok_X5_isWithin at hk
  refine gw_iload_n C 1 dX5_isWithin_0 0 rfl rfl ?_
  refine gw_iload_n C 2 dX5_isWithin_1 1 rfl rfl ?_
  refine gw_ic_ltP C 14 5 dX5_isWithin_2 (by decide) rfl (fun c2 => ?_) (fun c2 => ?_)
  · refine gw_iconst C 15 dX5_isWithin_14 (v := 0) (by decide) rfl ?_
    exact RT _ _ _ _ dX5_isWithin_15 ps_nb0
  · refine gw_iload_n C 6 dX5_isWithin_5 0 rfl rfl ?_
    refine gw_iload_n C 7 dX5_isWithin_6 2 rfl rfl ?_
    refine gw_ic_gtP C 14 10 dX5_isWithin_7 (by decide) rfl (fun c7 => ?_) (fun c7 => ?_)
    · refine gw_iconst C 15 dX5_isWithin_14 (v := 0) (by decide) rfl ?_
      exact RT _ _ _ _ dX5_isWithin_15 ps_nb0
    · refine gw_iconst C 11 dX5_isWithin_10 (v := 1) (by decide) rfl ?_
      refine gw_goto C 15 dX5_isWithin_11 (by decide) ?_
      exact RT _ _ _ _ dX5_isWithin_15 ps_nb1
theorem ct_X5_isWithin {E : ps_E} {l : Launch} (x0 : Int32) (x1 : Int32) (x2 : Int32)  (M : ps_M) (hk : ok_X5_isWithin x0 x1 x2 M) : ps_CI (ps_Yc E) l yX5_isWithin cX5_isWithin 3 (some .boolean) 0 0 [.int x0, .int x1, .int x2] M (fv_X5_isWithin x0 x1 x2 M, M) := ps_metI RX5 (by decide) rfl (Nat.le_of_ble_eq_true rfl) rfl (fun X _ C RT => bw_X5_isWithin C RT M x0 x1 x2 hk)
def fv_X5_addClerk (x1 : Int32) (x2 : Int32) (M : ps_M) : Int32 × ps_M := if (fv_X5_isWithin x1 (1 : Int32) (60 : Int32) M) = 0 then (((-2 : Int32), M)) else (if (fv_X5_isWithin x2 (1 : Int32) (6 : Int32) M) = 0 then (((-2 : Int32), M)) else (if (M 1 2) < (12 : Int32) then (((fv_X2_engageClerk 1 x1 x2 (fv_X3_remember 1 M)).1, (fv_X2_engageClerk 1 x1 x2 (fv_X3_remember 1 M)).2)) else (((-3 : Int32), M))))
def ok_X5_addClerk (x1 : Int32) (x2 : Int32) (M : ps_M) : Prop := (ok_X5_isWithin x1 (1 : Int32) (60 : Int32) M) ∧ (((fv_X5_isWithin x1 (1 : Int32) (60 : Int32) M) = 0 → True) ∧ (¬ ((fv_X5_isWithin x1 (1 : Int32) (60 : Int32) M) = 0) → ((ok_X5_isWithin x2 (1 : Int32) (6 : Int32) M) ∧ (((fv_X5_isWithin x2 (1 : Int32) (6 : Int32) M) = 0 → True) ∧ (¬ ((fv_X5_isWithin x2 (1 : Int32) (6 : Int32) M) = 0) → (((M 1 2) < (12 : Int32) → ((ok_X3_remember 1 M) ∧ ((ok_X2_engageClerk 1 x1 x2 (fv_X3_remember 1 M)) ∧ True))) ∧ (¬ ((M 1 2) < (12 : Int32)) → True)))))))
set_option maxRecDepth 100000 in
set_option maxHeartbeats 4000000 in
theorem bw_X5_addClerk {E : ps_E} {X : ps_X (Int32 × ps_M)} (C : ps_C (ps_Yc E) X cX5_addClerk RX5 (some .int) 4 82 3) (RT : ps_RI (ps_Yc E) X cX5_addClerk .int) (x1 : Int32) (x2 : Int32) (M : ps_M) (hk : ok_X5_addClerk x1 x2 M) : ps_G (ps_Yc E) X (fv_X5_addClerk x1 x2 M) 0 [(0, .ref (ps_ad E 0)), (1, .int x1), (2, .int x2)] [] M := by
  unfold fv_X5_addClerk
  unfold ok_X5_addClerk at hk
  refine gw_iload_n C 1 dX5_addClerk_0 1 rfl rfl ?_
  refine gw_iconst C 2 dX5_addClerk_1 (v := 1) (by decide) rfl ?_
  refine gw_bipush C 4 dX5_addClerk_2 (v := 60) (by decide) rfl ?_
  refine gw_cSp C 7 dX5_addClerk_4 rfl yv_X5_isWithin lk_X5_51 [.int x1, .int (1 : Int32), .int (60 : Int32)] [] rfl (ct_X5_isWithin (E := E) (l := ps_l X) x1 (1 : Int32) (60 : Int32) M hk.1) rfl (Nat.le_of_ble_eq_true rfl) (Nat.le_of_ble_eq_true rfl) (Nat.le_of_ble_eq_true rfl) ?_
  refine gw_if_eq C 20 10 dX5_addClerk_7 (by decide) rfl (fun c7 => ?_) (fun c7 => ?_)
  · refine gw_bipush C 22 dX5_addClerk_20 (v := (-2)) (by decide) rfl ?_
    exact RT _ _ _ _ dX5_addClerk_22 rfl
  · refine gw_iload_n C 11 dX5_addClerk_10 2 rfl rfl ?_
    refine gw_iconst C 12 dX5_addClerk_11 (v := 1) (by decide) rfl ?_
    refine gw_bipush C 14 dX5_addClerk_12 (v := 6) (by decide) rfl ?_
    refine gw_cSp C 17 dX5_addClerk_14 rfl yv_X5_isWithin lk_X5_51 [.int x2, .int (1 : Int32), .int (6 : Int32)] [] rfl (ct_X5_isWithin (E := E) (l := ps_l X) x2 (1 : Int32) (6 : Int32) M (hk.2.2 c7).1) rfl (Nat.le_of_ble_eq_true rfl) (Nat.le_of_ble_eq_true rfl) (Nat.le_of_ble_eq_true rfl) ?_
    refine gw_if_ne C 23 20 dX5_addClerk_17 (by decide) rfl (fun c17 => ?_) (fun c17 => ?_)
    · refine gw_bipush C 22 dX5_addClerk_20 (v := (-2)) (by decide) rfl ?_
      exact RT _ _ _ _ dX5_addClerk_22 rfl
    · refine gw_aload_n C 24 dX5_addClerk_23 0 rfl rfl ?_
      refine gf_X5_12 C 27 dX5_addClerk_24 rfl ?_
      refine gf_X5_55 C 30 dX5_addClerk_27 rfl kd_1 ?_
      refine gw_bipush C 32 dX5_addClerk_30 (v := 12) (by decide) rfl ?_
      refine gw_ic_lt C 38 35 dX5_addClerk_32 (by decide) rfl (fun c32 => ?_) (fun c32 => ?_)
      · refine gw_aload_n C 39 dX5_addClerk_38 0 rfl rfl ?_
        refine gf_X5_32 C 42 dX5_addClerk_39 rfl ?_
        refine gw_aload_n C 43 dX5_addClerk_42 0 rfl rfl ?_
        refine gf_X5_12 C 46 dX5_addClerk_43 rfl ?_
        refine gw_cVv C 49 dX5_addClerk_46 rfl yv_X3_remember lk_X5_47 [.ref (ps_ad E 1)] [] rfl (ct_X3_remember (E := E) (l := ps_l X) 1 kd_1 M (((hk.2.2 c7).2.2 c17).1 c32).1) rc_H rfl (Nat.le_of_ble_eq_true rfl) (Nat.le_of_ble_eq_true rfl) (Nat.le_of_ble_eq_true rfl) ?_
        refine gw_aload_n C 50 dX5_addClerk_49 0 rfl rfl ?_
        refine gf_X5_12 C 53 dX5_addClerk_50 rfl ?_
        refine gw_iload_n C 54 dX5_addClerk_53 1 rfl rfl ?_
        refine gw_iload_n C 55 dX5_addClerk_54 2 rfl rfl ?_
        refine gw_cVi C 58 dX5_addClerk_55 rfl yv_X2_engageClerk lk_X5_58 [.int x1, .int x2] [] rfl (ct_X2_engageClerk (E := E) (l := ps_l X) 1 x1 x2 kd_1 (fv_X3_remember 1 M) (((hk.2.2 c7).2.2 c17).1 c32).2.1) (rc_D kd_1) rfl (Nat.le_of_ble_eq_true rfl) (Nat.le_of_ble_eq_true rfl) (Nat.le_of_ble_eq_true rfl) ?_
        exact RT _ _ _ _ dX5_addClerk_58 rfl
      · refine gw_bipush C 37 dX5_addClerk_35 (v := (-3)) (by decide) rfl ?_
        exact RT _ _ _ _ dX5_addClerk_37 rfl
theorem ct_X5_addClerk {E : ps_E} {l : Launch} (x1 : Int32) (x2 : Int32)  (M : ps_M) (hk : ok_X5_addClerk x1 x2 M) : ps_CI (ps_Yc E) l yX5_addClerk cX5_addClerk 3 (some .int) 4 82 [.ref (ps_ad E 0), .int x1, .int x2] M (fv_X5_addClerk x1 x2 M) := ps_metI RX5 (by decide) rfl (Nat.le_of_ble_eq_true rfl) rfl (fun X _ C RT => bw_X5_addClerk C RT x1 x2 M hk)
def fv_X5_isHourToCome (x1 : Int32) (M : ps_M) : Int32 := if x1 < (M 1 0) then ((0 : Int32)) else (if (fv_X5_isWithin x1 (0 : Int32) (14 : Int32) M) = 0 then ((0 : Int32)) else ((1 : Int32)))
def ok_X5_isHourToCome (x1 : Int32) (M : ps_M) : Prop := (x1 < (M 1 0) → True) ∧ (¬ (x1 < (M 1 0)) → ((ok_X5_isWithin x1 (0 : Int32) (14 : Int32) M) ∧ True))
set_option maxRecDepth 100000 in
set_option maxHeartbeats 4000000 in
theorem bw_X5_isHourToCome {E : ps_E} {X : ps_X (Int32 × ps_M)} (C : ps_C (ps_Yc E) X cX5_isHourToCome RX5 (some .boolean) 1 22 2) (RT : ps_RI (ps_Yc E) X cX5_isHourToCome .boolean) (M : ps_M) (x1 : Int32) (hk : ok_X5_isHourToCome x1 M) : ps_G (ps_Yc E) X (fv_X5_isHourToCome x1 M, M) 0 [(0, .ref (ps_ad E 0)), (1, .int x1)] [] M := by
  unfold fv_X5_isHourToCome
  unfold ok_X5_isHourToCome at hk
  refine gw_iload_n C 1 dX5_isHourToCome_0 1 rfl rfl ?_
  refine gw_aload_n C 2 dX5_isHourToCome_1 0 rfl rfl ?_
  refine gf_X5_12 C 5 dX5_isHourToCome_2 rfl ?_
  refine gf_X5_107 C 8 dX5_isHourToCome_5 rfl kd_1 ?_
  refine gw_ic_ltP C 25 11 dX5_isHourToCome_8 (by decide) rfl (fun c8 => ?_) (fun c8 => ?_)
  · refine gw_iconst C 26 dX5_isHourToCome_25 (v := 0) (by decide) rfl ?_
    exact RT _ _ _ _ dX5_isHourToCome_26 ps_nb0
  · refine gw_iload_n C 12 dX5_isHourToCome_11 1 rfl rfl ?_
    refine gw_iconst C 13 dX5_isHourToCome_12 (v := 0) (by decide) rfl ?_
    refine gw_bipush C 15 dX5_isHourToCome_13 (v := 14) (by decide) rfl ?_
    refine gw_cSp C 18 dX5_isHourToCome_15 rfl yv_X5_isWithin lk_X5_51 [.int x1, .int (0 : Int32), .int (14 : Int32)] [] rfl (ct_X5_isWithin (E := E) (l := ps_l X) x1 (0 : Int32) (14 : Int32) M (hk.2 c8).1) rfl (Nat.le_of_ble_eq_true rfl) (Nat.le_of_ble_eq_true rfl) (Nat.le_of_ble_eq_true rfl) ?_
    refine gw_if_eqP C 25 21 dX5_isHourToCome_18 (by decide) rfl (fun c18 => ?_) (fun c18 => ?_)
    · refine gw_iconst C 26 dX5_isHourToCome_25 (v := 0) (by decide) rfl ?_
      exact RT _ _ _ _ dX5_isHourToCome_26 ps_nb0
    · refine gw_iconst C 22 dX5_isHourToCome_21 (v := 1) (by decide) rfl ?_
      refine gw_goto C 26 dX5_isHourToCome_22 (by decide) ?_
      exact RT _ _ _ _ dX5_isHourToCome_26 ps_nb1
theorem ct_X5_isHourToCome {E : ps_E} {l : Launch} (x1 : Int32)  (M : ps_M) (hk : ok_X5_isHourToCome x1 M) : ps_CI (ps_Yc E) l yX5_isHourToCome cX5_isHourToCome 2 (some .boolean) 1 22 [.ref (ps_ad E 0), .int x1] M (fv_X5_isHourToCome x1 M, M) := ps_metI RX5 (by decide) rfl (Nat.le_of_ble_eq_true rfl) rfl (fun X _ C RT => bw_X5_isHourToCome C RT M x1 hk)
def fv_X5_setArrivals (x1 : Int32) (x2 : Int32) (x3 : Int32) (M : ps_M) : Int32 × ps_M := if (fv_X2_hasStation 1 x1 M) = 0 then (((-1 : Int32), M)) else (if (fv_X5_isHourToCome x2 M) = 0 then (((-2 : Int32), M)) else (if (fv_X5_isWithin x3 (0 : Int32) (500 : Int32) M) = 0 then (((-2 : Int32), M)) else (if (M (((1 + 1) + 1 + 2 * (x1).toNatClampNeg) + 1) (x2).toNatClampNeg) = x3 then (((-5 : Int32), M)) else (((M (((1 + 1) + 1 + 2 * (x1).toNatClampNeg) + 1) (x2).toNatClampNeg), (ps_st (fv_X3_remember 1 M) (((1 + 1) + 1 + 2 * (x1).toNatClampNeg) + 1) (x2).toNatClampNeg x3))))))
def ok_X5_setArrivals (x1 : Int32) (x2 : Int32) (x3 : Int32) (M : ps_M) : Prop := (ok_X2_hasStation 1 x1 M) ∧ (((fv_X2_hasStation 1 x1 M) = 0 → True) ∧ (¬ ((fv_X2_hasStation 1 x1 M) = 0) → ((ok_X5_isHourToCome x2 M) ∧ (((fv_X5_isHourToCome x2 M) = 0 → True) ∧ (¬ ((fv_X5_isHourToCome x2 M) = 0) → ((ok_X5_isWithin x3 (0 : Int32) (500 : Int32) M) ∧ (((fv_X5_isWithin x3 (0 : Int32) (500 : Int32) M) = 0 → True) ∧ (¬ ((fv_X5_isWithin x3 (0 : Int32) (500 : Int32) M) = 0) → ((vp_in x1 6) ∧ ((vp_in x2 15) ∧ (((M (((1 + 1) + 1 + 2 * (x1).toNatClampNeg) + 1) (x2).toNatClampNeg) = x3 → True) ∧ (¬ ((M (((1 + 1) + 1 + 2 * (x1).toNatClampNeg) + 1) (x2).toNatClampNeg) = x3) → ((ok_X3_remember 1 M) ∧ ((vp_in x2 15) ∧ True))))))))))))))
set_option maxRecDepth 100000 in
set_option maxHeartbeats 4000000 in
theorem bw_X5_setArrivals {E : ps_E} {X : ps_X (Int32 × ps_M)} (C : ps_C (ps_Yc E) X cX5_setArrivals RX5 (some .int) 4 82 6) (RT : ps_RI (ps_Yc E) X cX5_setArrivals .int) (x1 : Int32) (x2 : Int32) (x3 : Int32) (M : ps_M) (hk : ok_X5_setArrivals x1 x2 x3 M) : ps_G (ps_Yc E) X (fv_X5_setArrivals x1 x2 x3 M) 0 [(0, .ref (ps_ad E 0)), (1, .int x1), (2, .int x2), (3, .int x3)] [] M := by
  unfold fv_X5_setArrivals
  unfold ok_X5_setArrivals at hk
  refine gw_aload_n C 1 dX5_setArrivals_0 0 rfl rfl ?_
  refine gf_X5_12 C 4 dX5_setArrivals_1 rfl ?_
  refine gw_iload_n C 5 dX5_setArrivals_4 1 rfl rfl ?_
  refine gw_cVp C 8 dX5_setArrivals_5 rfl yv_X2_hasStation lk_X5_62 [.int x1] [] rfl (ct_X2_hasStation (E := E) (l := ps_l X) 1 x1 kd_1 M hk.1) (rc_D kd_1) rfl (Nat.le_of_ble_eq_true rfl) (Nat.le_of_ble_eq_true rfl) (Nat.le_of_ble_eq_true rfl) ?_
  refine gw_if_ne C 13 11 dX5_setArrivals_8 (by decide) rfl (fun c8 => ?_) (fun c8 => ?_)
  · refine gw_iconst C 12 dX5_setArrivals_11 (v := (-1)) (by decide) rfl ?_
    exact RT _ _ _ _ dX5_setArrivals_12 rfl
  · refine gw_aload_n C 14 dX5_setArrivals_13 0 rfl rfl ?_
    refine gw_iload_n C 15 dX5_setArrivals_14 2 rfl rfl ?_
    refine gw_cVp C 18 dX5_setArrivals_15 rfl yv_X5_isHourToCome lk_X5_66 [.int x2] [] rfl (ct_X5_isHourToCome (E := E) (l := ps_l X) x2 M (hk.2.2 c8).1) rc_P rfl (Nat.le_of_ble_eq_true rfl) (Nat.le_of_ble_eq_true rfl) (Nat.le_of_ble_eq_true rfl) ?_
    refine gw_if_eq C 32 21 dX5_setArrivals_18 (by decide) rfl (fun c18 => ?_) (fun c18 => ?_)
    · refine gw_bipush C 34 dX5_setArrivals_32 (v := (-2)) (by decide) rfl ?_
      exact RT _ _ _ _ dX5_setArrivals_34 rfl
    · refine gw_iload_n C 22 dX5_setArrivals_21 3 rfl rfl ?_
      refine gw_iconst C 23 dX5_setArrivals_22 (v := 0) (by decide) rfl ?_
      refine gw_sipush C 26 dX5_setArrivals_23 (v := 500) (by decide) rfl ?_
      refine gw_cSp C 29 dX5_setArrivals_26 rfl yv_X5_isWithin lk_X5_51 [.int x3, .int (0 : Int32), .int (500 : Int32)] [] rfl (ct_X5_isWithin (E := E) (l := ps_l X) x3 (0 : Int32) (500 : Int32) M ((hk.2.2 c8).2.2 c18).1) rfl (Nat.le_of_ble_eq_true rfl) (Nat.le_of_ble_eq_true rfl) (Nat.le_of_ble_eq_true rfl) ?_
      refine gw_if_ne C 35 32 dX5_setArrivals_29 (by decide) rfl (fun c29 => ?_) (fun c29 => ?_)
      · refine gw_bipush C 34 dX5_setArrivals_32 (v := (-2)) (by decide) rfl ?_
        exact RT _ _ _ _ dX5_setArrivals_34 rfl
      · refine gw_aload_n C 36 dX5_setArrivals_35 0 rfl rfl ?_
        refine gf_X5_12 C 39 dX5_setArrivals_36 rfl ?_
        refine gf_X5_69 C 42 dX5_setArrivals_39 rfl kd_1 ?_
        refine gw_iload_n C 43 dX5_setArrivals_42 1 rfl rfl ?_
        refine gw_alS C 44 dX5_setArrivals_43 rfl (kd_d1 kd_1) (((hk.2.2 c8).2.2 c18).2.2 c29).1 ?_
        refine gw_astore C 46 dX5_setArrivals_44 rfl [(0, .ref (ps_ad E 0)), (1, .int x1), (2, .int x2), (3, .int x3), (4, .ref (ps_ad E ((1 + 1) + 1 + 2 * (x1).toNatClampNeg)))] [1, 2, 3, 4, 0] (by decide) rfl ?_
        refine gw_aload C 48 dX5_setArrivals_46 4 rfl rfl ?_
        refine gf_X5_73 C 51 dX5_setArrivals_48 rfl (kd_S (kd_d1 kd_1) (((hk.2.2 c8).2.2 c18).2.2 c29).1) ?_
        refine gw_iload_n C 52 dX5_setArrivals_51 2 rfl rfl ?_
        refine gw_ld_i15 C 53 dX5_setArrivals_52 rfl (kd_s1 (kd_S (kd_d1 kd_1) (((hk.2.2 c8).2.2 c18).2.2 c29).1)) (((hk.2.2 c8).2.2 c18).2.2 c29).2.1 ?_
        refine gw_istore C 55 dX5_setArrivals_53 rfl [(0, .ref (ps_ad E 0)), (1, .int x1), (2, .int x2), (3, .int x3), (4, .ref (ps_ad E ((1 + 1) + 1 + 2 * (x1).toNatClampNeg))), (5, .int (M (((1 + 1) + 1 + 2 * (x1).toNatClampNeg) + 1) (x2).toNatClampNeg))] [1, 2, 3, 4, 5, 0] (by decide) rfl ?_
        refine gw_iload C 57 dX5_setArrivals_55 5 rfl rfl ?_
        refine gw_iload_n C 58 dX5_setArrivals_57 3 rfl rfl ?_
        refine gw_ic_ne C 64 61 dX5_setArrivals_58 (by decide) rfl (fun c58 => ?_) (fun c58 => ?_)
        · refine gw_bipush C 63 dX5_setArrivals_61 (v := (-5)) (by decide) rfl ?_
          exact RT _ _ _ _ dX5_setArrivals_63 rfl
        · refine gw_aload_n C 65 dX5_setArrivals_64 0 rfl rfl ?_
          refine gf_X5_32 C 68 dX5_setArrivals_65 rfl ?_
          refine gw_aload_n C 69 dX5_setArrivals_68 0 rfl rfl ?_
          refine gf_X5_12 C 72 dX5_setArrivals_69 rfl ?_
          refine gw_cVv C 75 dX5_setArrivals_72 rfl yv_X3_remember lk_X5_47 [.ref (ps_ad E 1)] [] rfl (ct_X3_remember (E := E) (l := ps_l X) 1 kd_1 M ((((hk.2.2 c8).2.2 c18).2.2 c29).2.2.2 c58).1) rc_H rfl (Nat.le_of_ble_eq_true rfl) (Nat.le_of_ble_eq_true rfl) (Nat.le_of_ble_eq_true rfl) ?_
          refine gw_aload C 77 dX5_setArrivals_75 4 rfl rfl ?_
          refine gf_X5_73 C 80 dX5_setArrivals_77 rfl (kd_S (kd_d1 kd_1) (((hk.2.2 c8).2.2 c18).2.2 c29).1) ?_
          refine gw_iload_n C 81 dX5_setArrivals_80 2 rfl rfl ?_
          refine gw_iload_n C 82 dX5_setArrivals_81 3 rfl rfl ?_
          refine gw_sv_i15 C 83 dX5_setArrivals_82 rfl (kd_s1 (kd_S (kd_d1 kd_1) (((hk.2.2 c8).2.2 c18).2.2 c29).1)) ((((hk.2.2 c8).2.2 c18).2.2 c29).2.2.2 c58).2.1 ?_
          refine gw_iload C 85 dX5_setArrivals_83 5 rfl rfl ?_
          exact RT _ _ _ _ dX5_setArrivals_85 rfl
theorem ct_X5_setArrivals {E : ps_E} {l : Launch} (x1 : Int32) (x2 : Int32) (x3 : Int32)  (M : ps_M) (hk : ok_X5_setArrivals x1 x2 x3 M) : ps_CI (ps_Yc E) l yX5_setArrivals cX5_setArrivals 6 (some .int) 4 82 [.ref (ps_ad E 0), .int x1, .int x2, .int x3] M (fv_X5_setArrivals x1 x2 x3 M) := ps_metI RX5 (by decide) rfl (Nat.le_of_ble_eq_true rfl) rfl (fun X _ C RT => bw_X5_setArrivals C RT x1 x2 x3 M hk)
def fv_X5_assign (x1 : Int32) (x2 : Int32) (M : ps_M) : Int32 × ps_M := if (fv_X2_hasClerk 1 x1 M) = 0 then (((-1 : Int32), M)) else (if (fv_X2_hasStation 1 x2 M) = 0 then (((-1 : Int32), M)) else (if (fv_X1_isFree ((1 + 14) + 1 + (x1).toNatClampNeg) M) = 0 then (((-4 : Int32), M)) else (((fv_X2_clerksAt 1 x2 (fv_X1_comeTo ((1 + 14) + 1 + (x1).toNatClampNeg) x2 (fv_X3_remember 1 M))), (fv_X1_comeTo ((1 + 14) + 1 + (x1).toNatClampNeg) x2 (fv_X3_remember 1 M))))))
def ok_X5_assign (x1 : Int32) (x2 : Int32) (M : ps_M) : Prop := (ok_X2_hasClerk 1 x1 M) ∧ (((fv_X2_hasClerk 1 x1 M) = 0 → True) ∧ (¬ ((fv_X2_hasClerk 1 x1 M) = 0) → ((ok_X2_hasStation 1 x2 M) ∧ (((fv_X2_hasStation 1 x2 M) = 0 → True) ∧ (¬ ((fv_X2_hasStation 1 x2 M) = 0) → ((vp_in x1 12) ∧ ((ok_X1_isFree ((1 + 14) + 1 + (x1).toNatClampNeg) M) ∧ (((fv_X1_isFree ((1 + 14) + 1 + (x1).toNatClampNeg) M) = 0 → True) ∧ (¬ ((fv_X1_isFree ((1 + 14) + 1 + (x1).toNatClampNeg) M) = 0) → ((ok_X3_remember 1 M) ∧ ((vp_in x1 12) ∧ ((ok_X1_comeTo ((1 + 14) + 1 + (x1).toNatClampNeg) x2 (fv_X3_remember 1 M)) ∧ ((ok_X2_clerksAt 1 x2 (fv_X1_comeTo ((1 + 14) + 1 + (x1).toNatClampNeg) x2 (fv_X3_remember 1 M))) ∧ True)))))))))))))
set_option maxRecDepth 100000 in
set_option maxHeartbeats 4000000 in
theorem bw_X5_assign {E : ps_E} {X : ps_X (Int32 × ps_M)} (C : ps_C (ps_Yc E) X cX5_assign RX5 (some .int) 4 82 3) (RT : ps_RI (ps_Yc E) X cX5_assign .int) (x1 : Int32) (x2 : Int32) (M : ps_M) (hk : ok_X5_assign x1 x2 M) : ps_G (ps_Yc E) X (fv_X5_assign x1 x2 M) 0 [(0, .ref (ps_ad E 0)), (1, .int x1), (2, .int x2)] [] M := by
  unfold fv_X5_assign
  unfold ok_X5_assign at hk
  refine gw_aload_n C 1 dX5_assign_0 0 rfl rfl ?_
  refine gf_X5_12 C 4 dX5_assign_1 rfl ?_
  refine gw_iload_n C 5 dX5_assign_4 1 rfl rfl ?_
  refine gw_cVp C 8 dX5_assign_5 rfl yv_X2_hasClerk lk_X5_77 [.int x1] [] rfl (ct_X2_hasClerk (E := E) (l := ps_l X) 1 x1 kd_1 M hk.1) (rc_D kd_1) rfl (Nat.le_of_ble_eq_true rfl) (Nat.le_of_ble_eq_true rfl) (Nat.le_of_ble_eq_true rfl) ?_
  refine gw_if_eq C 22 11 dX5_assign_8 (by decide) rfl (fun c8 => ?_) (fun c8 => ?_)
  · refine gw_iconst C 23 dX5_assign_22 (v := (-1)) (by decide) rfl ?_
    exact RT _ _ _ _ dX5_assign_23 rfl
  · refine gw_aload_n C 12 dX5_assign_11 0 rfl rfl ?_
    refine gf_X5_12 C 15 dX5_assign_12 rfl ?_
    refine gw_iload_n C 16 dX5_assign_15 2 rfl rfl ?_
    refine gw_cVp C 19 dX5_assign_16 rfl yv_X2_hasStation lk_X5_62 [.int x2] [] rfl (ct_X2_hasStation (E := E) (l := ps_l X) 1 x2 kd_1 M (hk.2.2 c8).1) (rc_D kd_1) rfl (Nat.le_of_ble_eq_true rfl) (Nat.le_of_ble_eq_true rfl) (Nat.le_of_ble_eq_true rfl) ?_
    refine gw_if_ne C 24 22 dX5_assign_19 (by decide) rfl (fun c19 => ?_) (fun c19 => ?_)
    · refine gw_iconst C 23 dX5_assign_22 (v := (-1)) (by decide) rfl ?_
      exact RT _ _ _ _ dX5_assign_23 rfl
    · refine gw_aload_n C 25 dX5_assign_24 0 rfl rfl ?_
      refine gf_X5_12 C 28 dX5_assign_25 rfl ?_
      refine gf_X5_80 C 31 dX5_assign_28 rfl kd_1 ?_
      refine gw_iload_n C 32 dX5_assign_31 1 rfl rfl ?_
      refine gw_alK C 33 dX5_assign_32 rfl (kd_d14 kd_1) ((hk.2.2 c8).2.2 c19).1 ?_
      refine gw_cVp C 36 dX5_assign_33 rfl yv_X1_isFree lk_X5_84 [] [] rfl (ct_X1_isFree (E := E) (l := ps_l X) ((1 + 14) + 1 + (x1).toNatClampNeg) (kd_K (kd_d14 kd_1) ((hk.2.2 c8).2.2 c19).1) M ((hk.2.2 c8).2.2 c19).2.1) (rc_K (kd_K (kd_d14 kd_1) ((hk.2.2 c8).2.2 c19).1)) rfl (Nat.le_of_ble_eq_true rfl) (Nat.le_of_ble_eq_true rfl) (Nat.le_of_ble_eq_true rfl) ?_
      refine gw_if_ne C 42 39 dX5_assign_36 (by decide) rfl (fun c36 => ?_) (fun c36 => ?_)
      · refine gw_bipush C 41 dX5_assign_39 (v := (-4)) (by decide) rfl ?_
        exact RT _ _ _ _ dX5_assign_41 rfl
      · refine gw_aload_n C 43 dX5_assign_42 0 rfl rfl ?_
        refine gf_X5_32 C 46 dX5_assign_43 rfl ?_
        refine gw_aload_n C 47 dX5_assign_46 0 rfl rfl ?_
        refine gf_X5_12 C 50 dX5_assign_47 rfl ?_
        refine gw_cVv C 53 dX5_assign_50 rfl yv_X3_remember lk_X5_47 [.ref (ps_ad E 1)] [] rfl (ct_X3_remember (E := E) (l := ps_l X) 1 kd_1 M (((hk.2.2 c8).2.2 c19).2.2.2 c36).1) rc_H rfl (Nat.le_of_ble_eq_true rfl) (Nat.le_of_ble_eq_true rfl) (Nat.le_of_ble_eq_true rfl) ?_
        refine gw_aload_n C 54 dX5_assign_53 0 rfl rfl ?_
        refine gf_X5_12 C 57 dX5_assign_54 rfl ?_
        refine gf_X5_80 C 60 dX5_assign_57 rfl kd_1 ?_
        refine gw_iload_n C 61 dX5_assign_60 1 rfl rfl ?_
        refine gw_alK C 62 dX5_assign_61 rfl (kd_d14 kd_1) (((hk.2.2 c8).2.2 c19).2.2.2 c36).2.1 ?_
        refine gw_iload_n C 63 dX5_assign_62 2 rfl rfl ?_
        refine gw_cVv C 66 dX5_assign_63 rfl yv_X1_comeTo lk_X5_90 [.int x2] [] rfl (ct_X1_comeTo (E := E) (l := ps_l X) ((1 + 14) + 1 + (x1).toNatClampNeg) x2 (kd_K (kd_d14 kd_1) (((hk.2.2 c8).2.2 c19).2.2.2 c36).2.1) (fv_X3_remember 1 M) (((hk.2.2 c8).2.2 c19).2.2.2 c36).2.2.1) (rc_K (kd_K (kd_d14 kd_1) (((hk.2.2 c8).2.2 c19).2.2.2 c36).2.1)) rfl (Nat.le_of_ble_eq_true rfl) (Nat.le_of_ble_eq_true rfl) (Nat.le_of_ble_eq_true rfl) ?_
        refine gw_aload_n C 67 dX5_assign_66 0 rfl rfl ?_
        refine gf_X5_12 C 70 dX5_assign_67 rfl ?_
        refine gw_iload_n C 71 dX5_assign_70 2 rfl rfl ?_
        refine gw_cVp C 74 dX5_assign_71 rfl yv_X2_clerksAt lk_X5_94 [.int x2] [] rfl (ct_X2_clerksAt (E := E) (l := ps_l X) 1 x2 kd_1 (fv_X1_comeTo ((1 + 14) + 1 + (x1).toNatClampNeg) x2 (fv_X3_remember 1 M)) (((hk.2.2 c8).2.2 c19).2.2.2 c36).2.2.2.1) (rc_D kd_1) rfl (Nat.le_of_ble_eq_true rfl) (Nat.le_of_ble_eq_true rfl) (Nat.le_of_ble_eq_true rfl) ?_
        exact RT _ _ _ _ dX5_assign_74 rfl
theorem ct_X5_assign {E : ps_E} {l : Launch} (x1 : Int32) (x2 : Int32)  (M : ps_M) (hk : ok_X5_assign x1 x2 M) : ps_CI (ps_Yc E) l yX5_assign cX5_assign 3 (some .int) 4 82 [.ref (ps_ad E 0), .int x1, .int x2] M (fv_X5_assign x1 x2 M) := ps_metI RX5 (by decide) rfl (Nat.le_of_ble_eq_true rfl) rfl (fun X _ C RT => bw_X5_assign C RT x1 x2 M hk)
def fv_X5_relieve (x1 : Int32) (M : ps_M) : Int32 × ps_M := if (fv_X2_hasClerk 1 x1 M) = 0 then (((-1 : Int32), M)) else (if (fv_X1_isOnDuty ((1 + 14) + 1 + (x1).toNatClampNeg) M) = 0 then (((-5 : Int32), M)) else ((((fv_X3_remember 1 M) ((1 + 14) + 1 + (x1).toNatClampNeg) 3), (fv_X1_leaveDuty ((1 + 14) + 1 + (x1).toNatClampNeg) (1 : Int32) (fv_X3_remember 1 M)))))
def ok_X5_relieve (x1 : Int32) (M : ps_M) : Prop := (ok_X2_hasClerk 1 x1 M) ∧ (((fv_X2_hasClerk 1 x1 M) = 0 → True) ∧ (¬ ((fv_X2_hasClerk 1 x1 M) = 0) → ((vp_in x1 12) ∧ ((ok_X1_isOnDuty ((1 + 14) + 1 + (x1).toNatClampNeg) M) ∧ (((fv_X1_isOnDuty ((1 + 14) + 1 + (x1).toNatClampNeg) M) = 0 → True) ∧ (¬ ((fv_X1_isOnDuty ((1 + 14) + 1 + (x1).toNatClampNeg) M) = 0) → ((ok_X3_remember 1 M) ∧ ((vp_in x1 12) ∧ ((vp_in x1 12) ∧ ((ok_X1_leaveDuty ((1 + 14) + 1 + (x1).toNatClampNeg) (1 : Int32) (fv_X3_remember 1 M)) ∧ True))))))))))
set_option maxRecDepth 100000 in
set_option maxHeartbeats 4000000 in
theorem bw_X5_relieve {E : ps_E} {X : ps_X (Int32 × ps_M)} (C : ps_C (ps_Yc E) X cX5_relieve RX5 (some .int) 4 82 3) (RT : ps_RI (ps_Yc E) X cX5_relieve .int) (x1 : Int32) (M : ps_M) (hk : ok_X5_relieve x1 M) : ps_G (ps_Yc E) X (fv_X5_relieve x1 M) 0 [(0, .ref (ps_ad E 0)), (1, .int x1)] [] M := by
  unfold fv_X5_relieve
  unfold ok_X5_relieve at hk
  refine gw_aload_n C 1 dX5_relieve_0 0 rfl rfl ?_
  refine gf_X5_12 C 4 dX5_relieve_1 rfl ?_
  refine gw_iload_n C 5 dX5_relieve_4 1 rfl rfl ?_
  refine gw_cVp C 8 dX5_relieve_5 rfl yv_X2_hasClerk lk_X5_77 [.int x1] [] rfl (ct_X2_hasClerk (E := E) (l := ps_l X) 1 x1 kd_1 M hk.1) (rc_D kd_1) rfl (Nat.le_of_ble_eq_true rfl) (Nat.le_of_ble_eq_true rfl) (Nat.le_of_ble_eq_true rfl) ?_
  refine gw_if_ne C 13 11 dX5_relieve_8 (by decide) rfl (fun c8 => ?_) (fun c8 => ?_)
  · refine gw_iconst C 12 dX5_relieve_11 (v := (-1)) (by decide) rfl ?_
    exact RT _ _ _ _ dX5_relieve_12 rfl
  · refine gw_aload_n C 14 dX5_relieve_13 0 rfl rfl ?_
    refine gf_X5_12 C 17 dX5_relieve_14 rfl ?_
    refine gf_X5_80 C 20 dX5_relieve_17 rfl kd_1 ?_
    refine gw_iload_n C 21 dX5_relieve_20 1 rfl rfl ?_
    refine gw_alK C 22 dX5_relieve_21 rfl (kd_d14 kd_1) (hk.2.2 c8).1 ?_
    refine gw_cVp C 25 dX5_relieve_22 rfl yv_X1_isOnDuty lk_X5_98 [] [] rfl (ct_X1_isOnDuty (E := E) (l := ps_l X) ((1 + 14) + 1 + (x1).toNatClampNeg) (kd_K (kd_d14 kd_1) (hk.2.2 c8).1) M (hk.2.2 c8).2.1) (rc_K (kd_K (kd_d14 kd_1) (hk.2.2 c8).1)) rfl (Nat.le_of_ble_eq_true rfl) (Nat.le_of_ble_eq_true rfl) (Nat.le_of_ble_eq_true rfl) ?_
    refine gw_if_ne C 31 28 dX5_relieve_25 (by decide) rfl (fun c25 => ?_) (fun c25 => ?_)
    · refine gw_bipush C 30 dX5_relieve_28 (v := (-5)) (by decide) rfl ?_
      exact RT _ _ _ _ dX5_relieve_30 rfl
    · refine gw_aload_n C 32 dX5_relieve_31 0 rfl rfl ?_
      refine gf_X5_32 C 35 dX5_relieve_32 rfl ?_
      refine gw_aload_n C 36 dX5_relieve_35 0 rfl rfl ?_
      refine gf_X5_12 C 39 dX5_relieve_36 rfl ?_
      refine gw_cVv C 42 dX5_relieve_39 rfl yv_X3_remember lk_X5_47 [.ref (ps_ad E 1)] [] rfl (ct_X3_remember (E := E) (l := ps_l X) 1 kd_1 M ((hk.2.2 c8).2.2.2 c25).1) rc_H rfl (Nat.le_of_ble_eq_true rfl) (Nat.le_of_ble_eq_true rfl) (Nat.le_of_ble_eq_true rfl) ?_
      refine gw_aload_n C 43 dX5_relieve_42 0 rfl rfl ?_
      refine gf_X5_12 C 46 dX5_relieve_43 rfl ?_
      refine gf_X5_80 C 49 dX5_relieve_46 rfl kd_1 ?_
      refine gw_iload_n C 50 dX5_relieve_49 1 rfl rfl ?_
      refine gw_alK C 51 dX5_relieve_50 rfl (kd_d14 kd_1) ((hk.2.2 c8).2.2.2 c25).2.1 ?_
      refine gf_X5_101 C 54 dX5_relieve_51 rfl (kd_K (kd_d14 kd_1) ((hk.2.2 c8).2.2.2 c25).2.1) ?_
      refine gw_istore_n C 55 dX5_relieve_54 rfl [(0, .ref (ps_ad E 0)), (1, .int x1), (2, .int ((fv_X3_remember 1 M) ((1 + 14) + 1 + (x1).toNatClampNeg) 3))] [1, 2, 0] (by decide) rfl ?_
      refine gw_aload_n C 56 dX5_relieve_55 0 rfl rfl ?_
      refine gf_X5_12 C 59 dX5_relieve_56 rfl ?_
      refine gf_X5_80 C 62 dX5_relieve_59 rfl kd_1 ?_
      refine gw_iload_n C 63 dX5_relieve_62 1 rfl rfl ?_
      refine gw_alK C 64 dX5_relieve_63 rfl (kd_d14 kd_1) ((hk.2.2 c8).2.2.2 c25).2.2.1 ?_
      refine gw_iconst C 65 dX5_relieve_64 (v := 1) (by decide) rfl ?_
      refine gw_cVv C 68 dX5_relieve_65 rfl yv_X1_leaveDuty lk_X5_104 [.int (1 : Int32)] [] rfl (ct_X1_leaveDuty (E := E) (l := ps_l X) ((1 + 14) + 1 + (x1).toNatClampNeg) (1 : Int32) (kd_K (kd_d14 kd_1) ((hk.2.2 c8).2.2.2 c25).2.2.1) (fv_X3_remember 1 M) ((hk.2.2 c8).2.2.2 c25).2.2.2.1) (rc_K (kd_K (kd_d14 kd_1) ((hk.2.2 c8).2.2.2 c25).2.2.1)) rfl (Nat.le_of_ble_eq_true rfl) (Nat.le_of_ble_eq_true rfl) (Nat.le_of_ble_eq_true rfl) ?_
      refine gw_iload_n C 69 dX5_relieve_68 2 rfl rfl ?_
      exact RT _ _ _ _ dX5_relieve_69 rfl
theorem ct_X5_relieve {E : ps_E} {l : Launch} (x1 : Int32)  (M : ps_M) (hk : ok_X5_relieve x1 M) : ps_CI (ps_Yc E) l yX5_relieve cX5_relieve 3 (some .int) 4 82 [.ref (ps_ad E 0), .int x1] M (fv_X5_relieve x1 M) := ps_metI RX5 (by decide) rfl (Nat.le_of_ble_eq_true rfl) rfl (fun X _ C RT => bw_X5_relieve C RT x1 M hk)
def fv_X5_pass (x1 : Int32) (M : ps_M) : Int32 × ps_M := if (fv_X5_isWithin x1 (1 : Int32) (18 : Int32) M) = 0 then (((-2 : Int32), M)) else (if ((M 1 0) + x1) ≤ (18 : Int32) then (((fv_X2_letHoursPass 1 x1 (fv_X3_remember 1 M)).1, (fv_X2_letHoursPass 1 x1 (fv_X3_remember 1 M)).2)) else (((-4 : Int32), M)))
def ok_X5_pass (x1 : Int32) (M : ps_M) : Prop := (ok_X5_isWithin x1 (1 : Int32) (18 : Int32) M) ∧ (((fv_X5_isWithin x1 (1 : Int32) (18 : Int32) M) = 0 → True) ∧ (¬ ((fv_X5_isWithin x1 (1 : Int32) (18 : Int32) M) = 0) → ((((M 1 0) + x1) ≤ (18 : Int32) → ((ok_X3_remember 1 M) ∧ ((ok_X2_letHoursPass 1 x1 (fv_X3_remember 1 M)) ∧ True))) ∧ (¬ (((M 1 0) + x1) ≤ (18 : Int32)) → True))))
set_option maxRecDepth 100000 in
set_option maxHeartbeats 4000000 in
theorem bw_X5_pass {E : ps_E} {X : ps_X (Int32 × ps_M)} (C : ps_C (ps_Yc E) X cX5_pass RX5 (some .int) 5 108 2) (RT : ps_RI (ps_Yc E) X cX5_pass .int) (x1 : Int32) (M : ps_M) (hk : ok_X5_pass x1 M) : ps_G (ps_Yc E) X (fv_X5_pass x1 M) 0 [(0, .ref (ps_ad E 0)), (1, .int x1)] [] M := by
  unfold fv_X5_pass
  unfold ok_X5_pass at hk
  refine gw_iload_n C 1 dX5_pass_0 1 rfl rfl ?_
  refine gw_iconst C 2 dX5_pass_1 (v := 1) (by decide) rfl ?_
  refine gw_bipush C 4 dX5_pass_2 (v := 18) (by decide) rfl ?_
  refine gw_cSp C 7 dX5_pass_4 rfl yv_X5_isWithin lk_X5_51 [.int x1, .int (1 : Int32), .int (18 : Int32)] [] rfl (ct_X5_isWithin (E := E) (l := ps_l X) x1 (1 : Int32) (18 : Int32) M hk.1) rfl (Nat.le_of_ble_eq_true rfl) (Nat.le_of_ble_eq_true rfl) (Nat.le_of_ble_eq_true rfl) ?_
  refine gw_if_ne C 13 10 dX5_pass_7 (by decide) rfl (fun c7 => ?_) (fun c7 => ?_)
  · refine gw_bipush C 12 dX5_pass_10 (v := (-2)) (by decide) rfl ?_
    exact RT _ _ _ _ dX5_pass_12 rfl
  · refine gw_aload_n C 14 dX5_pass_13 0 rfl rfl ?_
    refine gf_X5_12 C 17 dX5_pass_14 rfl ?_
    refine gf_X5_107 C 20 dX5_pass_17 rfl kd_1 ?_
    refine gw_iload_n C 21 dX5_pass_20 1 rfl rfl ?_
    refine gw_iadd C 22 dX5_pass_21 rfl ?_
    refine gw_bipush C 24 dX5_pass_22 (v := 18) (by decide) rfl ?_
    refine gw_ic_le C 30 27 dX5_pass_24 (by decide) rfl (fun c24 => ?_) (fun c24 => ?_)
    · refine gw_aload_n C 31 dX5_pass_30 0 rfl rfl ?_
      refine gf_X5_32 C 34 dX5_pass_31 rfl ?_
      refine gw_aload_n C 35 dX5_pass_34 0 rfl rfl ?_
      refine gf_X5_12 C 38 dX5_pass_35 rfl ?_
      refine gw_cVv C 41 dX5_pass_38 rfl yv_X3_remember lk_X5_47 [.ref (ps_ad E 1)] [] rfl (ct_X3_remember (E := E) (l := ps_l X) 1 kd_1 M ((hk.2.2 c7).1 c24).1) rc_H rfl (Nat.le_of_ble_eq_true rfl) (Nat.le_of_ble_eq_true rfl) (Nat.le_of_ble_eq_true rfl) ?_
      refine gw_aload_n C 42 dX5_pass_41 0 rfl rfl ?_
      refine gf_X5_12 C 45 dX5_pass_42 rfl ?_
      refine gw_iload_n C 46 dX5_pass_45 1 rfl rfl ?_
      refine gw_cVi C 49 dX5_pass_46 rfl yv_X2_letHoursPass lk_X5_110 [.int x1] [] rfl (ct_X2_letHoursPass (E := E) (l := ps_l X) 1 x1 kd_1 (fv_X3_remember 1 M) ((hk.2.2 c7).1 c24).2.1) (rc_D kd_1) rfl (Nat.le_of_ble_eq_true rfl) (Nat.le_of_ble_eq_true rfl) (Nat.le_of_ble_eq_true rfl) ?_
      exact RT _ _ _ _ dX5_pass_49 rfl
    · refine gw_bipush C 29 dX5_pass_27 (v := (-4)) (by decide) rfl ?_
      exact RT _ _ _ _ dX5_pass_29 rfl
theorem ct_X5_pass {E : ps_E} {l : Launch} (x1 : Int32)  (M : ps_M) (hk : ok_X5_pass x1 M) : ps_CI (ps_Yc E) l yX5_pass cX5_pass 2 (some .int) 5 108 [.ref (ps_ad E 0), .int x1] M (fv_X5_pass x1 M) := ps_metI RX5 (by decide) rfl (Nat.le_of_ble_eq_true rfl) rfl (fun X _ C RT => bw_X5_pass C RT x1 M hk)
def fv_X5_isPaperNumber (x0 : Int32) (M : ps_M) : Int32 := (fv_X5_isWithin x0 (1 : Int32) (9999 : Int32) M)
def ok_X5_isPaperNumber (x0 : Int32) (M : ps_M) : Prop := (ok_X5_isWithin x0 (1 : Int32) (9999 : Int32) M) ∧ (((fv_X5_isWithin x0 (1 : Int32) (9999 : Int32) M) = 0 ∨ (fv_X5_isWithin x0 (1 : Int32) (9999 : Int32) M) = 1) ∧ True)
set_option maxRecDepth 100000 in
set_option maxHeartbeats 4000000 in
theorem bw_X5_isPaperNumber {E : ps_E} {X : ps_X (Int32 × ps_M)} (C : ps_C (ps_Yc E) X cX5_isPaperNumber RX5 (some .boolean) 1 22 1) (RT : ps_RI (ps_Yc E) X cX5_isPaperNumber .boolean) (M : ps_M) (x0 : Int32) (hk : ok_X5_isPaperNumber x0 M) : ps_G (ps_Yc E) X (fv_X5_isPaperNumber x0 M, M) 0 [(0, .int x0)] [] M := by
  unfold fv_X5_isPaperNumber
  unfold ok_X5_isPaperNumber at hk
  refine gw_iload_n C 1 dX5_isPaperNumber_0 0 rfl rfl ?_
  refine gw_iconst C 2 dX5_isPaperNumber_1 (v := 1) (by decide) rfl ?_
  refine gw_sipush C 5 dX5_isPaperNumber_2 (v := 9999) (by decide) rfl ?_
  refine gw_cSp C 8 dX5_isPaperNumber_5 rfl yv_X5_isWithin lk_X5_51 [.int x0, .int (1 : Int32), .int (9999 : Int32)] [] rfl (ct_X5_isWithin (E := E) (l := ps_l X) x0 (1 : Int32) (9999 : Int32) M hk.1) rfl (Nat.le_of_ble_eq_true rfl) (Nat.le_of_ble_eq_true rfl) (Nat.le_of_ble_eq_true rfl) ?_
  exact RT _ _ _ _ dX5_isPaperNumber_8 (ps_nb hk.2.1)
theorem ct_X5_isPaperNumber {E : ps_E} {l : Launch} (x0 : Int32)  (M : ps_M) (hk : ok_X5_isPaperNumber x0 M) : ps_CI (ps_Yc E) l yX5_isPaperNumber cX5_isPaperNumber 1 (some .boolean) 1 22 [.int x0] M (fv_X5_isPaperNumber x0 M, M) := ps_metI RX5 (by decide) rfl (Nat.le_of_ble_eq_true rfl) rfl (fun X _ C RT => bw_X5_isPaperNumber C RT M x0 hk)
def fv_X5_supply (x1 : Int32) (x2 : Int32) (M : ps_M) : Int32 × ps_M := if (fv_X2_hasStation 1 x1 M) = 0 then (((-1 : Int32), M)) else (if (fv_X5_isPaperNumber x2 M) = 0 then (((-2 : Int32), M)) else (if ((M ((1 + 1) + 1 + 2 * (x1).toNatClampNeg) 5) + x2) ≤ (9999 : Int32) then ((((ps_st (fv_X3_remember 1 M) ((1 + 1) + 1 + 2 * (x1).toNatClampNeg) 5 (((fv_X3_remember 1 M) ((1 + 1) + 1 + 2 * (x1).toNatClampNeg) 5) + x2)) ((1 + 1) + 1 + 2 * (x1).toNatClampNeg) 5), (ps_st (fv_X3_remember 1 M) ((1 + 1) + 1 + 2 * (x1).toNatClampNeg) 5 (((fv_X3_remember 1 M) ((1 + 1) + 1 + 2 * (x1).toNatClampNeg) 5) + x2)))) else (((-3 : Int32), M))))
def ok_X5_supply (x1 : Int32) (x2 : Int32) (M : ps_M) : Prop := (ok_X2_hasStation 1 x1 M) ∧ (((fv_X2_hasStation 1 x1 M) = 0 → True) ∧ (¬ ((fv_X2_hasStation 1 x1 M) = 0) → ((ok_X5_isPaperNumber x2 M) ∧ (((fv_X5_isPaperNumber x2 M) = 0 → True) ∧ (¬ ((fv_X5_isPaperNumber x2 M) = 0) → ((vp_in x1 6) ∧ ((((M ((1 + 1) + 1 + 2 * (x1).toNatClampNeg) 5) + x2) ≤ (9999 : Int32) → ((ok_X3_remember 1 M) ∧ True)) ∧ (¬ (((M ((1 + 1) + 1 + 2 * (x1).toNatClampNeg) 5) + x2) ≤ (9999 : Int32)) → True))))))))
set_option maxRecDepth 100000 in
set_option maxHeartbeats 4000000 in
theorem bw_X5_supply {E : ps_E} {X : ps_X (Int32 × ps_M)} (C : ps_C (ps_Yc E) X cX5_supply RX5 (some .int) 4 82 4) (RT : ps_RI (ps_Yc E) X cX5_supply .int) (x1 : Int32) (x2 : Int32) (M : ps_M) (hk : ok_X5_supply x1 x2 M) : ps_G (ps_Yc E) X (fv_X5_supply x1 x2 M) 0 [(0, .ref (ps_ad E 0)), (1, .int x1), (2, .int x2)] [] M := by
  unfold fv_X5_supply
  unfold ok_X5_supply at hk
  refine gw_aload_n C 1 dX5_supply_0 0 rfl rfl ?_
  refine gf_X5_12 C 4 dX5_supply_1 rfl ?_
  refine gw_iload_n C 5 dX5_supply_4 1 rfl rfl ?_
  refine gw_cVp C 8 dX5_supply_5 rfl yv_X2_hasStation lk_X5_62 [.int x1] [] rfl (ct_X2_hasStation (E := E) (l := ps_l X) 1 x1 kd_1 M hk.1) (rc_D kd_1) rfl (Nat.le_of_ble_eq_true rfl) (Nat.le_of_ble_eq_true rfl) (Nat.le_of_ble_eq_true rfl) ?_
  refine gw_if_ne C 13 11 dX5_supply_8 (by decide) rfl (fun c8 => ?_) (fun c8 => ?_)
  · refine gw_iconst C 12 dX5_supply_11 (v := (-1)) (by decide) rfl ?_
    exact RT _ _ _ _ dX5_supply_12 rfl
  · refine gw_iload_n C 14 dX5_supply_13 2 rfl rfl ?_
    refine gw_cSp C 17 dX5_supply_14 rfl yv_X5_isPaperNumber lk_X5_113 [.int x2] [] rfl (ct_X5_isPaperNumber (E := E) (l := ps_l X) x2 M (hk.2.2 c8).1) rfl (Nat.le_of_ble_eq_true rfl) (Nat.le_of_ble_eq_true rfl) (Nat.le_of_ble_eq_true rfl) ?_
    refine gw_if_ne C 23 20 dX5_supply_17 (by decide) rfl (fun c17 => ?_) (fun c17 => ?_)
    · refine gw_bipush C 22 dX5_supply_20 (v := (-2)) (by decide) rfl ?_
      exact RT _ _ _ _ dX5_supply_22 rfl
    · refine gw_aload_n C 24 dX5_supply_23 0 rfl rfl ?_
      refine gf_X5_12 C 27 dX5_supply_24 rfl ?_
      refine gf_X5_69 C 30 dX5_supply_27 rfl kd_1 ?_
      refine gw_iload_n C 31 dX5_supply_30 1 rfl rfl ?_
      refine gw_alS C 32 dX5_supply_31 rfl (kd_d1 kd_1) ((hk.2.2 c8).2.2 c17).1 ?_
      refine gw_astore_n C 33 dX5_supply_32 rfl [(0, .ref (ps_ad E 0)), (1, .int x1), (2, .int x2), (3, .ref (ps_ad E ((1 + 1) + 1 + 2 * (x1).toNatClampNeg)))] [1, 2, 3, 0] (by decide) rfl ?_
      refine gw_aload_n C 34 dX5_supply_33 3 rfl rfl ?_
      refine gf_X5_116 C 37 dX5_supply_34 rfl (kd_S (kd_d1 kd_1) ((hk.2.2 c8).2.2 c17).1) ?_
      refine gw_iload_n C 38 dX5_supply_37 2 rfl rfl ?_
      refine gw_iadd C 39 dX5_supply_38 rfl ?_
      refine gw_sipush C 42 dX5_supply_39 (v := 9999) (by decide) rfl ?_
      refine gw_ic_le C 48 45 dX5_supply_42 (by decide) rfl (fun c42 => ?_) (fun c42 => ?_)
      · refine gw_aload_n C 49 dX5_supply_48 0 rfl rfl ?_
        refine gf_X5_32 C 52 dX5_supply_49 rfl ?_
        refine gw_aload_n C 53 dX5_supply_52 0 rfl rfl ?_
        refine gf_X5_12 C 56 dX5_supply_53 rfl ?_
        refine gw_cVv C 59 dX5_supply_56 rfl yv_X3_remember lk_X5_47 [.ref (ps_ad E 1)] [] rfl (ct_X3_remember (E := E) (l := ps_l X) 1 kd_1 M (((hk.2.2 c8).2.2 c17).2.1 c42).1) rc_H rfl (Nat.le_of_ble_eq_true rfl) (Nat.le_of_ble_eq_true rfl) (Nat.le_of_ble_eq_true rfl) ?_
        refine gw_aload_n C 60 dX5_supply_59 3 rfl rfl ?_
        refine gw_dup C 61 dX5_supply_60 rfl rfl ?_
        refine gf_X5_116 C 64 dX5_supply_61 rfl (kd_S (kd_d1 kd_1) ((hk.2.2 c8).2.2 c17).1) ?_
        refine gw_iload_n C 65 dX5_supply_64 2 rfl rfl ?_
        refine gw_iadd C 66 dX5_supply_65 rfl ?_
        refine pf_X5_116 C 69 dX5_supply_66 rfl (kd_S (kd_d1 kd_1) ((hk.2.2 c8).2.2 c17).1) ?_
        refine gw_aload_n C 70 dX5_supply_69 3 rfl rfl ?_
        refine gf_X5_116 C 73 dX5_supply_70 rfl (kd_S (kd_d1 kd_1) ((hk.2.2 c8).2.2 c17).1) ?_
        exact RT _ _ _ _ dX5_supply_73 rfl
      · refine gw_bipush C 47 dX5_supply_45 (v := (-3)) (by decide) rfl ?_
        exact RT _ _ _ _ dX5_supply_47 rfl
theorem ct_X5_supply {E : ps_E} {l : Launch} (x1 : Int32) (x2 : Int32)  (M : ps_M) (hk : ok_X5_supply x1 x2 M) : ps_CI (ps_Yc E) l yX5_supply cX5_supply 4 (some .int) 4 82 [.ref (ps_ad E 0), .int x1, .int x2] M (fv_X5_supply x1 x2 M) := ps_metI RX5 (by decide) rfl (Nat.le_of_ble_eq_true rfl) rfl (fun X _ C RT => bw_X5_supply C RT x1 x2 M hk)
def fv_X5_movePapers_122 (k4 : Nat) (M : ps_M) : Int32 × ps_M := ((M k4 5), M)
def ok_X5_movePapers_122 (k4 : Nat) (M : ps_M) : Prop := True
set_option maxRecDepth 100000 in
set_option maxHeartbeats 4000000 in
theorem bw_X5_movePapers_122 {E : ps_E} {X : ps_X (Int32 × ps_M)} (C : ps_C (ps_Yc E) X cX5_movePapers RX5 (some .int) 4 82 6) (RT : ps_RI (ps_Yc E) X cX5_movePapers .int) (k4 : Nat) (hk4 : ps_kd k4 = 4) (M : ps_M) (hk : ok_X5_movePapers_122 k4 M) : ps_G (ps_Yc E) X (fv_X5_movePapers_122 k4 M) 122 [(4, .ref (ps_ad E k4))] [] M := by
  unfold fv_X5_movePapers_122
  unfold ok_X5_movePapers_122 at hk
  refine gw_aload C 124 dX5_movePapers_122 0 rfl rfl ?_
  refine gf_X5_116 C 127 dX5_movePapers_124 rfl hk4 ?_
  exact RT _ _ _ _ dX5_movePapers_127 rfl
def fv_X5_movePapers (x1 : Int32) (x2 : Int32) (x3 : Int32) (M : ps_M) : Int32 × ps_M := if (fv_X2_hasStation 1 x1 M) = 0 then (((-1 : Int32), M)) else (if (fv_X2_hasStation 1 x2 M) = 0 then (((-1 : Int32), M)) else (if (fv_X5_isPaperNumber x3 M) = 0 then (((-2 : Int32), M)) else (if x1 = x2 then (((-2 : Int32), M)) else (if x3 ≤ (M ((1 + 1) + 1 + 2 * (x1).toNatClampNeg) 5) then (if ((M ((1 + 1) + 1 + 2 * (x2).toNatClampNeg) 5) + x3) ≤ (9999 : Int32) then (fv_X5_movePapers_122 ((1 + 1) + 1 + 2 * (x1).toNatClampNeg) (ps_st (ps_st (fv_X3_remember 1 M) ((1 + 1) + 1 + 2 * (x1).toNatClampNeg) 5 (((fv_X3_remember 1 M) ((1 + 1) + 1 + 2 * (x1).toNatClampNeg) 5) - x3)) ((1 + 1) + 1 + 2 * (x2).toNatClampNeg) 5 (((ps_st (fv_X3_remember 1 M) ((1 + 1) + 1 + 2 * (x1).toNatClampNeg) 5 (((fv_X3_remember 1 M) ((1 + 1) + 1 + 2 * (x1).toNatClampNeg) 5) - x3)) ((1 + 1) + 1 + 2 * (x2).toNatClampNeg) 5) + x3))) else (((-3 : Int32), M))) else (((-4 : Int32), M))))))
def ok_X5_movePapers (x1 : Int32) (x2 : Int32) (x3 : Int32) (M : ps_M) : Prop := (ok_X2_hasStation 1 x1 M) ∧ (((fv_X2_hasStation 1 x1 M) = 0 → True) ∧ (¬ ((fv_X2_hasStation 1 x1 M) = 0) → ((ok_X2_hasStation 1 x2 M) ∧ (((fv_X2_hasStation 1 x2 M) = 0 → True) ∧ (¬ ((fv_X2_hasStation 1 x2 M) = 0) → ((ok_X5_isPaperNumber x3 M) ∧ (((fv_X5_isPaperNumber x3 M) = 0 → True) ∧ (¬ ((fv_X5_isPaperNumber x3 M) = 0) → ((x1 = x2 → True) ∧ (¬ (x1 = x2) → ((vp_in x1 6) ∧ ((vp_in x2 6) ∧ ((x3 ≤ (M ((1 + 1) + 1 + 2 * (x1).toNatClampNeg) 5) → ((((M ((1 + 1) + 1 + 2 * (x2).toNatClampNeg) 5) + x3) ≤ (9999 : Int32) → ((ok_X3_remember 1 M) ∧ (ok_X5_movePapers_122 ((1 + 1) + 1 + 2 * (x1).toNatClampNeg) (ps_st (ps_st (fv_X3_remember 1 M) ((1 + 1) + 1 + 2 * (x1).toNatClampNeg) 5 (((fv_X3_remember 1 M) ((1 + 1) + 1 + 2 * (x1).toNatClampNeg) 5) - x3)) ((1 + 1) + 1 + 2 * (x2).toNatClampNeg) 5 (((ps_st (fv_X3_remember 1 M) ((1 + 1) + 1 + 2 * (x1).toNatClampNeg) 5 (((fv_X3_remember 1 M) ((1 + 1) + 1 + 2 * (x1).toNatClampNeg) 5) - x3)) ((1 + 1) + 1 + 2 * (x2).toNatClampNeg) 5) + x3))))) ∧ (¬ (((M ((1 + 1) + 1 + 2 * (x2).toNatClampNeg) 5) + x3) ≤ (9999 : Int32)) → True))) ∧ (¬ (x3 ≤ (M ((1 + 1) + 1 + 2 * (x1).toNatClampNeg) 5)) → True))))))))))))))
set_option maxRecDepth 100000 in
set_option maxHeartbeats 4000000 in
theorem bw_X5_movePapers {E : ps_E} {X : ps_X (Int32 × ps_M)} (C : ps_C (ps_Yc E) X cX5_movePapers RX5 (some .int) 4 82 6) (RT : ps_RI (ps_Yc E) X cX5_movePapers .int) (x1 : Int32) (x2 : Int32) (x3 : Int32) (M : ps_M) (hk : ok_X5_movePapers x1 x2 x3 M) : ps_G (ps_Yc E) X (fv_X5_movePapers x1 x2 x3 M) 0 [(0, .ref (ps_ad E 0)), (1, .int x1), (2, .int x2), (3, .int x3)] [] M := by
  unfold fv_X5_movePapers
  unfold ok_X5_movePapers at hk
  refine gw_aload_n C 1 dX5_movePapers_0 0 rfl rfl ?_
  refine gf_X5_12 C 4 dX5_movePapers_1 rfl ?_
  refine gw_iload_n C 5 dX5_movePapers_4 1 rfl rfl ?_
  refine gw_cVp C 8 dX5_movePapers_5 rfl yv_X2_hasStation lk_X5_62 [.int x1] [] rfl (ct_X2_hasStation (E := E) (l := ps_l X) 1 x1 kd_1 M hk.1) (rc_D kd_1) rfl (Nat.le_of_ble_eq_true rfl) (Nat.le_of_ble_eq_true rfl) (Nat.le_of_ble_eq_true rfl) ?_
  refine gw_if_eq C 22 11 dX5_movePapers_8 (by decide) rfl (fun c8 => ?_) (fun c8 => ?_)
  · refine gw_iconst C 23 dX5_movePapers_22 (v := (-1)) (by decide) rfl ?_
    exact RT _ _ _ _ dX5_movePapers_23 rfl
  · refine gw_aload_n C 12 dX5_movePapers_11 0 rfl rfl ?_
    refine gf_X5_12 C 15 dX5_movePapers_12 rfl ?_
    refine gw_iload_n C 16 dX5_movePapers_15 2 rfl rfl ?_
    refine gw_cVp C 19 dX5_movePapers_16 rfl yv_X2_hasStation lk_X5_62 [.int x2] [] rfl (ct_X2_hasStation (E := E) (l := ps_l X) 1 x2 kd_1 M (hk.2.2 c8).1) (rc_D kd_1) rfl (Nat.le_of_ble_eq_true rfl) (Nat.le_of_ble_eq_true rfl) (Nat.le_of_ble_eq_true rfl) ?_
    refine gw_if_ne C 24 22 dX5_movePapers_19 (by decide) rfl (fun c19 => ?_) (fun c19 => ?_)
    · refine gw_iconst C 23 dX5_movePapers_22 (v := (-1)) (by decide) rfl ?_
      exact RT _ _ _ _ dX5_movePapers_23 rfl
    · refine gw_iload_n C 25 dX5_movePapers_24 3 rfl rfl ?_
      refine gw_cSp C 28 dX5_movePapers_25 rfl yv_X5_isPaperNumber lk_X5_113 [.int x3] [] rfl (ct_X5_isPaperNumber (E := E) (l := ps_l X) x3 M ((hk.2.2 c8).2.2 c19).1) rfl (Nat.le_of_ble_eq_true rfl) (Nat.le_of_ble_eq_true rfl) (Nat.le_of_ble_eq_true rfl) ?_
      refine gw_if_eq C 36 31 dX5_movePapers_28 (by decide) rfl (fun c28 => ?_) (fun c28 => ?_)
      · refine gw_bipush C 38 dX5_movePapers_36 (v := (-2)) (by decide) rfl ?_
        exact RT _ _ _ _ dX5_movePapers_38 rfl
      · refine gw_iload_n C 32 dX5_movePapers_31 1 rfl rfl ?_
        refine gw_iload_n C 33 dX5_movePapers_32 2 rfl rfl ?_
        refine gw_ic_ne C 39 36 dX5_movePapers_33 (by decide) rfl (fun c33 => ?_) (fun c33 => ?_)
        · refine gw_bipush C 38 dX5_movePapers_36 (v := (-2)) (by decide) rfl ?_
          exact RT _ _ _ _ dX5_movePapers_38 rfl
        · refine gw_aload_n C 40 dX5_movePapers_39 0 rfl rfl ?_
          refine gf_X5_12 C 43 dX5_movePapers_40 rfl ?_
          refine gf_X5_69 C 46 dX5_movePapers_43 rfl kd_1 ?_
          refine gw_iload_n C 47 dX5_movePapers_46 1 rfl rfl ?_
          refine gw_alS C 48 dX5_movePapers_47 rfl (kd_d1 kd_1) ((((hk.2.2 c8).2.2 c19).2.2 c28).2 c33).1 ?_
          refine gw_astore C 50 dX5_movePapers_48 rfl [(0, .ref (ps_ad E 0)), (1, .int x1), (2, .int x2), (3, .int x3), (4, .ref (ps_ad E ((1 + 1) + 1 + 2 * (x1).toNatClampNeg)))] [1, 2, 3, 4, 0] (by decide) rfl ?_
          refine gw_aload_n C 51 dX5_movePapers_50 0 rfl rfl ?_
          refine gf_X5_12 C 54 dX5_movePapers_51 rfl ?_
          refine gf_X5_69 C 57 dX5_movePapers_54 rfl kd_1 ?_
          refine gw_iload_n C 58 dX5_movePapers_57 2 rfl rfl ?_
          refine gw_alS C 59 dX5_movePapers_58 rfl (kd_d1 kd_1) ((((hk.2.2 c8).2.2 c19).2.2 c28).2 c33).2.1 ?_
          refine gw_astore C 61 dX5_movePapers_59 rfl [(0, .ref (ps_ad E 0)), (1, .int x1), (2, .int x2), (3, .int x3), (4, .ref (ps_ad E ((1 + 1) + 1 + 2 * (x1).toNatClampNeg))), (5, .ref (ps_ad E ((1 + 1) + 1 + 2 * (x2).toNatClampNeg)))] [1, 2, 3, 4, 5, 0] (by decide) rfl ?_
          refine gw_aload C 63 dX5_movePapers_61 4 rfl rfl ?_
          refine gf_X5_116 C 66 dX5_movePapers_63 rfl (kd_S (kd_d1 kd_1) ((((hk.2.2 c8).2.2 c19).2.2 c28).2 c33).1) ?_
          refine gw_iload_n C 67 dX5_movePapers_66 3 rfl rfl ?_
          refine gw_ic_ge C 73 70 dX5_movePapers_67 (by decide) rfl (fun c67 => ?_) (fun c67 => ?_)
          · refine gw_aload C 75 dX5_movePapers_73 5 rfl rfl ?_
            refine gf_X5_116 C 78 dX5_movePapers_75 rfl (kd_S (kd_d1 kd_1) ((((hk.2.2 c8).2.2 c19).2.2 c28).2 c33).2.1) ?_
            refine gw_iload_n C 79 dX5_movePapers_78 3 rfl rfl ?_
            refine gw_iadd C 80 dX5_movePapers_79 rfl ?_
            refine gw_sipush C 83 dX5_movePapers_80 (v := 9999) (by decide) rfl ?_
            refine gw_ic_le C 89 86 dX5_movePapers_83 (by decide) rfl (fun c83 => ?_) (fun c83 => ?_)
            · refine gw_aload_n C 90 dX5_movePapers_89 0 rfl rfl ?_
              refine gf_X5_32 C 93 dX5_movePapers_90 rfl ?_
              refine gw_aload_n C 94 dX5_movePapers_93 0 rfl rfl ?_
              refine gf_X5_12 C 97 dX5_movePapers_94 rfl ?_
              refine gw_cVv C 100 dX5_movePapers_97 rfl yv_X3_remember lk_X5_47 [.ref (ps_ad E 1)] [] rfl (ct_X3_remember (E := E) (l := ps_l X) 1 kd_1 M ((((((hk.2.2 c8).2.2 c19).2.2 c28).2 c33).2.2.1 c67).1 c83).1) rc_H rfl (Nat.le_of_ble_eq_true rfl) (Nat.le_of_ble_eq_true rfl) (Nat.le_of_ble_eq_true rfl) ?_
              refine gw_aload C 102 dX5_movePapers_100 4 rfl rfl ?_
              refine gw_dup C 103 dX5_movePapers_102 rfl rfl ?_
              refine gf_X5_116 C 106 dX5_movePapers_103 rfl (kd_S (kd_d1 kd_1) ((((hk.2.2 c8).2.2 c19).2.2 c28).2 c33).1) ?_
              refine gw_iload_n C 107 dX5_movePapers_106 3 rfl rfl ?_
              refine gw_isub C 108 dX5_movePapers_107 rfl ?_
              refine pf_X5_116 C 111 dX5_movePapers_108 rfl (kd_S (kd_d1 kd_1) ((((hk.2.2 c8).2.2 c19).2.2 c28).2 c33).1) ?_
              refine gw_aload C 113 dX5_movePapers_111 5 rfl rfl ?_
              refine gw_dup C 114 dX5_movePapers_113 rfl rfl ?_
              refine gf_X5_116 C 117 dX5_movePapers_114 rfl (kd_S (kd_d1 kd_1) ((((hk.2.2 c8).2.2 c19).2.2 c28).2 c33).2.1) ?_
              refine gw_iload_n C 118 dX5_movePapers_117 3 rfl rfl ?_
              refine gw_iadd C 119 dX5_movePapers_118 rfl ?_
              refine pf_X5_116 C 122 dX5_movePapers_119 rfl (kd_S (kd_d1 kd_1) ((((hk.2.2 c8).2.2 c19).2.2 c28).2 c33).2.1) ?_
              refine gw_sub C [(4, .ref (ps_ad E ((1 + 1) + 1 + 2 * (x1).toNatClampNeg)))] [4] rfl ?_
              exact bw_X5_movePapers_122 C RT  ((1 + 1) + 1 + 2 * (x1).toNatClampNeg) (kd_S (kd_d1 kd_1) ((((hk.2.2 c8).2.2 c19).2.2 c28).2 c33).1) (ps_st (ps_st (fv_X3_remember 1 M) ((1 + 1) + 1 + 2 * (x1).toNatClampNeg) 5 (((fv_X3_remember 1 M) ((1 + 1) + 1 + 2 * (x1).toNatClampNeg) 5) - x3)) ((1 + 1) + 1 + 2 * (x2).toNatClampNeg) 5 (((ps_st (fv_X3_remember 1 M) ((1 + 1) + 1 + 2 * (x1).toNatClampNeg) 5 (((fv_X3_remember 1 M) ((1 + 1) + 1 + 2 * (x1).toNatClampNeg) 5) - x3)) ((1 + 1) + 1 + 2 * (x2).toNatClampNeg) 5) + x3)) ((((((hk.2.2 c8).2.2 c19).2.2 c28).2 c33).2.2.1 c67).1 c83).2
            · refine gw_bipush C 88 dX5_movePapers_86 (v := (-3)) (by decide) rfl ?_
              exact RT _ _ _ _ dX5_movePapers_88 rfl
          · refine gw_bipush C 72 dX5_movePapers_70 (v := (-4)) (by decide) rfl ?_
            exact RT _ _ _ _ dX5_movePapers_72 rfl
theorem ct_X5_movePapers {E : ps_E} {l : Launch} (x1 : Int32) (x2 : Int32) (x3 : Int32)  (M : ps_M) (hk : ok_X5_movePapers x1 x2 x3 M) : ps_CI (ps_Yc E) l yX5_movePapers cX5_movePapers 6 (some .int) 4 82 [.ref (ps_ad E 0), .int x1, .int x2, .int x3] M (fv_X5_movePapers x1 x2 x3 M) := ps_metI RX5 (by decide) rfl (Nat.le_of_ble_eq_true rfl) rfl (fun X _ C RT => bw_X5_movePapers C RT x1 x2 x3 M hk)
def fv_X5_spoil_83 (x2 : Int32) (k3 : Nat) (M : ps_M) : Int32 × ps_M := (((ps_st M k3 5 ((M k3 5) - x2)) k3 5), (ps_st M k3 5 ((M k3 5) - x2)))
def ok_X5_spoil_83 (x2 : Int32) (k3 : Nat) (M : ps_M) : Prop := True
set_option maxRecDepth 100000 in
set_option maxHeartbeats 4000000 in
theorem bw_X5_spoil_83 {E : ps_E} {X : ps_X (Int32 × ps_M)} (C : ps_C (ps_Yc E) X cX5_spoil RX5 (some .int) 4 82 4) (RT : ps_RI (ps_Yc E) X cX5_spoil .int) (x2 : Int32) (k3 : Nat) (hk3 : ps_kd k3 = 4) (M : ps_M) (hk : ok_X5_spoil_83 x2 k3 M) : ps_G (ps_Yc E) X (fv_X5_spoil_83 x2 k3 M) 83 [(2, .int x2), (3, .ref (ps_ad E k3))] [] M := by
  unfold fv_X5_spoil_83
  unfold ok_X5_spoil_83 at hk
  refine gw_aload_n C 84 dX5_spoil_83 1 rfl rfl ?_
  refine gw_dup C 85 dX5_spoil_84 rfl rfl ?_
  refine gf_X5_116 C 88 dX5_spoil_85 rfl hk3 ?_
  refine gw_iload_n C 89 dX5_spoil_88 0 rfl rfl ?_
  refine gw_isub C 90 dX5_spoil_89 rfl ?_
  refine pf_X5_116 C 93 dX5_spoil_90 rfl hk3 ?_
  refine gw_aload_n C 94 dX5_spoil_93 1 rfl rfl ?_
  refine gf_X5_116 C 97 dX5_spoil_94 rfl hk3 ?_
  exact RT _ _ _ _ dX5_spoil_97 rfl
def fv_X5_spoil (x1 : Int32) (x2 : Int32) (M : ps_M) : Int32 × ps_M := if (fv_X2_hasStation 1 x1 M) = 0 then (((-1 : Int32), M)) else (if (fv_X5_isPaperNumber x2 M) = 0 then (((-2 : Int32), M)) else (if (M ((1 + 1) + 1 + 2 * (x1).toNatClampNeg) 10) < x2 then (((-4 : Int32), M)) else (if x2 ≤ (M ((1 + 1) + 1 + 2 * (x1).toNatClampNeg) 5) then (fv_X5_spoil_83 x2 ((1 + 1) + 1 + 2 * (x1).toNatClampNeg) (ps_st (ps_st (fv_X3_remember 1 M) ((1 + 1) + 1 + 2 * (x1).toNatClampNeg) 7 (((fv_X3_remember 1 M) ((1 + 1) + 1 + 2 * (x1).toNatClampNeg) 7) + x2)) ((1 + 1) + 1 + 2 * (x1).toNatClampNeg) 6 (((ps_st (fv_X3_remember 1 M) ((1 + 1) + 1 + 2 * (x1).toNatClampNeg) 7 (((fv_X3_remember 1 M) ((1 + 1) + 1 + 2 * (x1).toNatClampNeg) 7) + x2)) ((1 + 1) + 1 + 2 * (x1).toNatClampNeg) 6) + x2))) else (((-4 : Int32), M)))))
def ok_X5_spoil (x1 : Int32) (x2 : Int32) (M : ps_M) : Prop := (ok_X2_hasStation 1 x1 M) ∧ (((fv_X2_hasStation 1 x1 M) = 0 → True) ∧ (¬ ((fv_X2_hasStation 1 x1 M) = 0) → ((ok_X5_isPaperNumber x2 M) ∧ (((fv_X5_isPaperNumber x2 M) = 0 → True) ∧ (¬ ((fv_X5_isPaperNumber x2 M) = 0) → ((vp_in x1 6) ∧ (((M ((1 + 1) + 1 + 2 * (x1).toNatClampNeg) 10) < x2 → True) ∧ (¬ ((M ((1 + 1) + 1 + 2 * (x1).toNatClampNeg) 10) < x2) → ((x2 ≤ (M ((1 + 1) + 1 + 2 * (x1).toNatClampNeg) 5) → ((ok_X3_remember 1 M) ∧ (ok_X5_spoil_83 x2 ((1 + 1) + 1 + 2 * (x1).toNatClampNeg) (ps_st (ps_st (fv_X3_remember 1 M) ((1 + 1) + 1 + 2 * (x1).toNatClampNeg) 7 (((fv_X3_remember 1 M) ((1 + 1) + 1 + 2 * (x1).toNatClampNeg) 7) + x2)) ((1 + 1) + 1 + 2 * (x1).toNatClampNeg) 6 (((ps_st (fv_X3_remember 1 M) ((1 + 1) + 1 + 2 * (x1).toNatClampNeg) 7 (((fv_X3_remember 1 M) ((1 + 1) + 1 + 2 * (x1).toNatClampNeg) 7) + x2)) ((1 + 1) + 1 + 2 * (x1).toNatClampNeg) 6) + x2))))) ∧ (¬ (x2 ≤ (M ((1 + 1) + 1 + 2 * (x1).toNatClampNeg) 5)) → True))))))))))
set_option maxRecDepth 100000 in
set_option maxHeartbeats 4000000 in
theorem bw_X5_spoil {E : ps_E} {X : ps_X (Int32 × ps_M)} (C : ps_C (ps_Yc E) X cX5_spoil RX5 (some .int) 4 82 4) (RT : ps_RI (ps_Yc E) X cX5_spoil .int) (x1 : Int32) (x2 : Int32) (M : ps_M) (hk : ok_X5_spoil x1 x2 M) : ps_G (ps_Yc E) X (fv_X5_spoil x1 x2 M) 0 [(0, .ref (ps_ad E 0)), (1, .int x1), (2, .int x2)] [] M := by
  unfold fv_X5_spoil
  unfold ok_X5_spoil at hk
  refine gw_aload_n C 1 dX5_spoil_0 0 rfl rfl ?_
  refine gf_X5_12 C 4 dX5_spoil_1 rfl ?_
  refine gw_iload_n C 5 dX5_spoil_4 1 rfl rfl ?_
  refine gw_cVp C 8 dX5_spoil_5 rfl yv_X2_hasStation lk_X5_62 [.int x1] [] rfl (ct_X2_hasStation (E := E) (l := ps_l X) 1 x1 kd_1 M hk.1) (rc_D kd_1) rfl (Nat.le_of_ble_eq_true rfl) (Nat.le_of_ble_eq_true rfl) (Nat.le_of_ble_eq_true rfl) ?_
  refine gw_if_ne C 13 11 dX5_spoil_8 (by decide) rfl (fun c8 => ?_) (fun c8 => ?_)
  · refine gw_iconst C 12 dX5_spoil_11 (v := (-1)) (by decide) rfl ?_
    exact RT _ _ _ _ dX5_spoil_12 rfl
  · refine gw_iload_n C 14 dX5_spoil_13 2 rfl rfl ?_
    refine gw_cSp C 17 dX5_spoil_14 rfl yv_X5_isPaperNumber lk_X5_113 [.int x2] [] rfl (ct_X5_isPaperNumber (E := E) (l := ps_l X) x2 M (hk.2.2 c8).1) rfl (Nat.le_of_ble_eq_true rfl) (Nat.le_of_ble_eq_true rfl) (Nat.le_of_ble_eq_true rfl) ?_
    refine gw_if_ne C 23 20 dX5_spoil_17 (by decide) rfl (fun c17 => ?_) (fun c17 => ?_)
    · refine gw_bipush C 22 dX5_spoil_20 (v := (-2)) (by decide) rfl ?_
      exact RT _ _ _ _ dX5_spoil_22 rfl
    · refine gw_aload_n C 24 dX5_spoil_23 0 rfl rfl ?_
      refine gf_X5_12 C 27 dX5_spoil_24 rfl ?_
      refine gf_X5_69 C 30 dX5_spoil_27 rfl kd_1 ?_
      refine gw_iload_n C 31 dX5_spoil_30 1 rfl rfl ?_
      refine gw_alS C 32 dX5_spoil_31 rfl (kd_d1 kd_1) ((hk.2.2 c8).2.2 c17).1 ?_
      refine gw_astore_n C 33 dX5_spoil_32 rfl [(0, .ref (ps_ad E 0)), (1, .int x1), (2, .int x2), (3, .ref (ps_ad E ((1 + 1) + 1 + 2 * (x1).toNatClampNeg)))] [1, 2, 3, 0] (by decide) rfl ?_
      refine gw_aload_n C 34 dX5_spoil_33 3 rfl rfl ?_
      refine gf_X5_119 C 37 dX5_spoil_34 rfl (kd_S (kd_d1 kd_1) ((hk.2.2 c8).2.2 c17).1) ?_
      refine gw_iload_n C 38 dX5_spoil_37 2 rfl rfl ?_
      refine gw_ic_lt C 49 41 dX5_spoil_38 (by decide) rfl (fun c38 => ?_) (fun c38 => ?_)
      · refine gw_bipush C 51 dX5_spoil_49 (v := (-4)) (by decide) rfl ?_
        exact RT _ _ _ _ dX5_spoil_51 rfl
      · refine gw_aload_n C 42 dX5_spoil_41 3 rfl rfl ?_
        refine gf_X5_116 C 45 dX5_spoil_42 rfl (kd_S (kd_d1 kd_1) ((hk.2.2 c8).2.2 c17).1) ?_
        refine gw_iload_n C 46 dX5_spoil_45 2 rfl rfl ?_
        refine gw_ic_ge C 52 49 dX5_spoil_46 (by decide) rfl (fun c46 => ?_) (fun c46 => ?_)
        · refine gw_aload_n C 53 dX5_spoil_52 0 rfl rfl ?_
          refine gf_X5_32 C 56 dX5_spoil_53 rfl ?_
          refine gw_aload_n C 57 dX5_spoil_56 0 rfl rfl ?_
          refine gf_X5_12 C 60 dX5_spoil_57 rfl ?_
          refine gw_cVv C 63 dX5_spoil_60 rfl yv_X3_remember lk_X5_47 [.ref (ps_ad E 1)] [] rfl (ct_X3_remember (E := E) (l := ps_l X) 1 kd_1 M ((((hk.2.2 c8).2.2 c17).2.2 c38).1 c46).1) rc_H rfl (Nat.le_of_ble_eq_true rfl) (Nat.le_of_ble_eq_true rfl) (Nat.le_of_ble_eq_true rfl) ?_
          refine gw_aload_n C 64 dX5_spoil_63 3 rfl rfl ?_
          refine gw_dup C 65 dX5_spoil_64 rfl rfl ?_
          refine gf_X5_122 C 68 dX5_spoil_65 rfl (kd_S (kd_d1 kd_1) ((hk.2.2 c8).2.2 c17).1) ?_
          refine gw_iload_n C 69 dX5_spoil_68 2 rfl rfl ?_
          refine gw_iadd C 70 dX5_spoil_69 rfl ?_
          refine pf_X5_122 C 73 dX5_spoil_70 rfl (kd_S (kd_d1 kd_1) ((hk.2.2 c8).2.2 c17).1) ?_
          refine gw_aload_n C 74 dX5_spoil_73 3 rfl rfl ?_
          refine gw_dup C 75 dX5_spoil_74 rfl rfl ?_
          refine gf_X5_125 C 78 dX5_spoil_75 rfl (kd_S (kd_d1 kd_1) ((hk.2.2 c8).2.2 c17).1) ?_
          refine gw_iload_n C 79 dX5_spoil_78 2 rfl rfl ?_
          refine gw_iadd C 80 dX5_spoil_79 rfl ?_
          refine pf_X5_125 C 83 dX5_spoil_80 rfl (kd_S (kd_d1 kd_1) ((hk.2.2 c8).2.2 c17).1) ?_
          refine gw_sub C [(2, .int x2), (3, .ref (ps_ad E ((1 + 1) + 1 + 2 * (x1).toNatClampNeg)))] [2, 3] rfl ?_
          exact bw_X5_spoil_83 C RT  x2 ((1 + 1) + 1 + 2 * (x1).toNatClampNeg) (kd_S (kd_d1 kd_1) ((hk.2.2 c8).2.2 c17).1) (ps_st (ps_st (fv_X3_remember 1 M) ((1 + 1) + 1 + 2 * (x1).toNatClampNeg) 7 (((fv_X3_remember 1 M) ((1 + 1) + 1 + 2 * (x1).toNatClampNeg) 7) + x2)) ((1 + 1) + 1 + 2 * (x1).toNatClampNeg) 6 (((ps_st (fv_X3_remember 1 M) ((1 + 1) + 1 + 2 * (x1).toNatClampNeg) 7 (((fv_X3_remember 1 M) ((1 + 1) + 1 + 2 * (x1).toNatClampNeg) 7) + x2)) ((1 + 1) + 1 + 2 * (x1).toNatClampNeg) 6) + x2)) ((((hk.2.2 c8).2.2 c17).2.2 c38).1 c46).2
        · refine gw_bipush C 51 dX5_spoil_49 (v := (-4)) (by decide) rfl ?_
          exact RT _ _ _ _ dX5_spoil_51 rfl
theorem ct_X5_spoil {E : ps_E} {l : Launch} (x1 : Int32) (x2 : Int32)  (M : ps_M) (hk : ok_X5_spoil x1 x2 M) : ps_CI (ps_Yc E) l yX5_spoil cX5_spoil 4 (some .int) 4 82 [.ref (ps_ad E 0), .int x1, .int x2] M (fv_X5_spoil x1 x2 M) := ps_metI RX5 (by decide) rfl (Nat.le_of_ble_eq_true rfl) rfl (fun X _ C RT => bw_X5_spoil C RT x1 x2 M hk)
def fv_X5_carryOff_65 (x2 : Int32) (k3 : Nat) (M : ps_M) : Int32 × ps_M := (((ps_st M k3 8 ((M k3 8) + x2)) k3 10), (ps_st M k3 8 ((M k3 8) + x2)))
def ok_X5_carryOff_65 (x2 : Int32) (k3 : Nat) (M : ps_M) : Prop := True
set_option maxRecDepth 100000 in
set_option maxHeartbeats 4000000 in
theorem bw_X5_carryOff_65 {E : ps_E} {X : ps_X (Int32 × ps_M)} (C : ps_C (ps_Yc E) X cX5_carryOff RX5 (some .int) 4 82 4) (RT : ps_RI (ps_Yc E) X cX5_carryOff .int) (x2 : Int32) (k3 : Nat) (hk3 : ps_kd k3 = 4) (M : ps_M) (hk : ok_X5_carryOff_65 x2 k3 M) : ps_G (ps_Yc E) X (fv_X5_carryOff_65 x2 k3 M) 65 [(2, .int x2), (3, .ref (ps_ad E k3))] [] M := by
  unfold fv_X5_carryOff_65
  unfold ok_X5_carryOff_65 at hk
  refine gw_aload_n C 66 dX5_carryOff_65 1 rfl rfl ?_
  refine gw_dup C 67 dX5_carryOff_66 rfl rfl ?_
  refine gf_X5_128 C 70 dX5_carryOff_67 rfl hk3 ?_
  refine gw_iload_n C 71 dX5_carryOff_70 0 rfl rfl ?_
  refine gw_iadd C 72 dX5_carryOff_71 rfl ?_
  refine pf_X5_128 C 75 dX5_carryOff_72 rfl hk3 ?_
  refine gw_aload_n C 76 dX5_carryOff_75 1 rfl rfl ?_
  refine gf_X5_119 C 79 dX5_carryOff_76 rfl hk3 ?_
  exact RT _ _ _ _ dX5_carryOff_79 rfl
def fv_X5_carryOff (x1 : Int32) (x2 : Int32) (M : ps_M) : Int32 × ps_M := if (fv_X2_hasStation 1 x1 M) = 0 then (((-1 : Int32), M)) else (if (fv_X5_isPaperNumber x2 M) = 0 then (((-2 : Int32), M)) else (if x2 ≤ (M ((1 + 1) + 1 + 2 * (x1).toNatClampNeg) 10) then (fv_X5_carryOff_65 x2 ((1 + 1) + 1 + 2 * (x1).toNatClampNeg) (ps_st (fv_X3_remember 1 M) ((1 + 1) + 1 + 2 * (x1).toNatClampNeg) 10 (((fv_X3_remember 1 M) ((1 + 1) + 1 + 2 * (x1).toNatClampNeg) 10) - x2))) else (((-4 : Int32), M))))
def ok_X5_carryOff (x1 : Int32) (x2 : Int32) (M : ps_M) : Prop := (ok_X2_hasStation 1 x1 M) ∧ (((fv_X2_hasStation 1 x1 M) = 0 → True) ∧ (¬ ((fv_X2_hasStation 1 x1 M) = 0) → ((ok_X5_isPaperNumber x2 M) ∧ (((fv_X5_isPaperNumber x2 M) = 0 → True) ∧ (¬ ((fv_X5_isPaperNumber x2 M) = 0) → ((vp_in x1 6) ∧ ((x2 ≤ (M ((1 + 1) + 1 + 2 * (x1).toNatClampNeg) 10) → ((ok_X3_remember 1 M) ∧ (ok_X5_carryOff_65 x2 ((1 + 1) + 1 + 2 * (x1).toNatClampNeg) (ps_st (fv_X3_remember 1 M) ((1 + 1) + 1 + 2 * (x1).toNatClampNeg) 10 (((fv_X3_remember 1 M) ((1 + 1) + 1 + 2 * (x1).toNatClampNeg) 10) - x2))))) ∧ (¬ (x2 ≤ (M ((1 + 1) + 1 + 2 * (x1).toNatClampNeg) 10)) → True))))))))
set_option maxRecDepth 100000 in
set_option maxHeartbeats 4000000 in
theorem bw_X5_carryOff {E : ps_E} {X : ps_X (Int32 × ps_M)} (C : ps_C (ps_Yc E) X cX5_carryOff RX5 (some .int) 4 82 4) (RT : ps_RI (ps_Yc E) X cX5_carryOff .int) (x1 : Int32) (x2 : Int32) (M : ps_M) (hk : ok_X5_carryOff x1 x2 M) : ps_G (ps_Yc E) X (fv_X5_carryOff x1 x2 M) 0 [(0, .ref (ps_ad E 0)), (1, .int x1), (2, .int x2)] [] M := by
  unfold fv_X5_carryOff
  unfold ok_X5_carryOff at hk
  refine gw_aload_n C 1 dX5_carryOff_0 0 rfl rfl ?_
  refine gf_X5_12 C 4 dX5_carryOff_1 rfl ?_
  refine gw_iload_n C 5 dX5_carryOff_4 1 rfl rfl ?_
  refine gw_cVp C 8 dX5_carryOff_5 rfl yv_X2_hasStation lk_X5_62 [.int x1] [] rfl (ct_X2_hasStation (E := E) (l := ps_l X) 1 x1 kd_1 M hk.1) (rc_D kd_1) rfl (Nat.le_of_ble_eq_true rfl) (Nat.le_of_ble_eq_true rfl) (Nat.le_of_ble_eq_true rfl) ?_
  refine gw_if_ne C 13 11 dX5_carryOff_8 (by decide) rfl (fun c8 => ?_) (fun c8 => ?_)
  · refine gw_iconst C 12 dX5_carryOff_11 (v := (-1)) (by decide) rfl ?_
    exact RT _ _ _ _ dX5_carryOff_12 rfl
  · refine gw_iload_n C 14 dX5_carryOff_13 2 rfl rfl ?_
    refine gw_cSp C 17 dX5_carryOff_14 rfl yv_X5_isPaperNumber lk_X5_113 [.int x2] [] rfl (ct_X5_isPaperNumber (E := E) (l := ps_l X) x2 M (hk.2.2 c8).1) rfl (Nat.le_of_ble_eq_true rfl) (Nat.le_of_ble_eq_true rfl) (Nat.le_of_ble_eq_true rfl) ?_
    refine gw_if_ne C 23 20 dX5_carryOff_17 (by decide) rfl (fun c17 => ?_) (fun c17 => ?_)
    · refine gw_bipush C 22 dX5_carryOff_20 (v := (-2)) (by decide) rfl ?_
      exact RT _ _ _ _ dX5_carryOff_22 rfl
    · refine gw_aload_n C 24 dX5_carryOff_23 0 rfl rfl ?_
      refine gf_X5_12 C 27 dX5_carryOff_24 rfl ?_
      refine gf_X5_69 C 30 dX5_carryOff_27 rfl kd_1 ?_
      refine gw_iload_n C 31 dX5_carryOff_30 1 rfl rfl ?_
      refine gw_alS C 32 dX5_carryOff_31 rfl (kd_d1 kd_1) ((hk.2.2 c8).2.2 c17).1 ?_
      refine gw_astore_n C 33 dX5_carryOff_32 rfl [(0, .ref (ps_ad E 0)), (1, .int x1), (2, .int x2), (3, .ref (ps_ad E ((1 + 1) + 1 + 2 * (x1).toNatClampNeg)))] [1, 2, 3, 0] (by decide) rfl ?_
      refine gw_aload_n C 34 dX5_carryOff_33 3 rfl rfl ?_
      refine gf_X5_119 C 37 dX5_carryOff_34 rfl (kd_S (kd_d1 kd_1) ((hk.2.2 c8).2.2 c17).1) ?_
      refine gw_iload_n C 38 dX5_carryOff_37 2 rfl rfl ?_
      refine gw_ic_ge C 44 41 dX5_carryOff_38 (by decide) rfl (fun c38 => ?_) (fun c38 => ?_)
      · refine gw_aload_n C 45 dX5_carryOff_44 0 rfl rfl ?_
        refine gf_X5_32 C 48 dX5_carryOff_45 rfl ?_
        refine gw_aload_n C 49 dX5_carryOff_48 0 rfl rfl ?_
        refine gf_X5_12 C 52 dX5_carryOff_49 rfl ?_
        refine gw_cVv C 55 dX5_carryOff_52 rfl yv_X3_remember lk_X5_47 [.ref (ps_ad E 1)] [] rfl (ct_X3_remember (E := E) (l := ps_l X) 1 kd_1 M (((hk.2.2 c8).2.2 c17).2.1 c38).1) rc_H rfl (Nat.le_of_ble_eq_true rfl) (Nat.le_of_ble_eq_true rfl) (Nat.le_of_ble_eq_true rfl) ?_
        refine gw_aload_n C 56 dX5_carryOff_55 3 rfl rfl ?_
        refine gw_dup C 57 dX5_carryOff_56 rfl rfl ?_
        refine gf_X5_119 C 60 dX5_carryOff_57 rfl (kd_S (kd_d1 kd_1) ((hk.2.2 c8).2.2 c17).1) ?_
        refine gw_iload_n C 61 dX5_carryOff_60 2 rfl rfl ?_
        refine gw_isub C 62 dX5_carryOff_61 rfl ?_
        refine pf_X5_119 C 65 dX5_carryOff_62 rfl (kd_S (kd_d1 kd_1) ((hk.2.2 c8).2.2 c17).1) ?_
        refine gw_sub C [(2, .int x2), (3, .ref (ps_ad E ((1 + 1) + 1 + 2 * (x1).toNatClampNeg)))] [2, 3] rfl ?_
        exact bw_X5_carryOff_65 C RT  x2 ((1 + 1) + 1 + 2 * (x1).toNatClampNeg) (kd_S (kd_d1 kd_1) ((hk.2.2 c8).2.2 c17).1) (ps_st (fv_X3_remember 1 M) ((1 + 1) + 1 + 2 * (x1).toNatClampNeg) 10 (((fv_X3_remember 1 M) ((1 + 1) + 1 + 2 * (x1).toNatClampNeg) 10) - x2)) (((hk.2.2 c8).2.2 c17).2.1 c38).2
      · refine gw_bipush C 43 dX5_carryOff_41 (v := (-4)) (by decide) rfl ?_
        exact RT _ _ _ _ dX5_carryOff_43 rfl
theorem ct_X5_carryOff {E : ps_E} {l : Launch} (x1 : Int32) (x2 : Int32)  (M : ps_M) (hk : ok_X5_carryOff x1 x2 M) : ps_CI (ps_Yc E) l yX5_carryOff cX5_carryOff 4 (some .int) 4 82 [.ref (ps_ad E 0), .int x1, .int x2] M (fv_X5_carryOff x1 x2 M) := ps_metI RX5 (by decide) rfl (Nat.le_of_ble_eq_true rfl) rfl (fun X _ C RT => bw_X5_carryOff C RT x1 x2 M hk)
def fv_X5_find_75 (k3 : Nat) (M : ps_M) : Int32 × ps_M := ((M k3 8), M)
def ok_X5_find_75 (k3 : Nat) (M : ps_M) : Prop := True
set_option maxRecDepth 100000 in
set_option maxHeartbeats 4000000 in
theorem bw_X5_find_75 {E : ps_E} {X : ps_X (Int32 × ps_M)} (C : ps_C (ps_Yc E) X cX5_find RX5 (some .int) 4 82 4) (RT : ps_RI (ps_Yc E) X cX5_find .int) (k3 : Nat) (hk3 : ps_kd k3 = 4) (M : ps_M) (hk : ok_X5_find_75 k3 M) : ps_G (ps_Yc E) X (fv_X5_find_75 k3 M) 75 [(3, .ref (ps_ad E k3))] [] M := by
  unfold fv_X5_find_75
  unfold ok_X5_find_75 at hk
  refine gw_aload_n C 76 dX5_find_75 0 rfl rfl ?_
  refine gf_X5_128 C 79 dX5_find_76 rfl hk3 ?_
  exact RT _ _ _ _ dX5_find_79 rfl
def fv_X5_find (x1 : Int32) (x2 : Int32) (M : ps_M) : Int32 × ps_M := if (fv_X2_hasStation 1 x1 M) = 0 then (((-1 : Int32), M)) else (if (fv_X5_isPaperNumber x2 M) = 0 then (((-2 : Int32), M)) else (if x2 ≤ (M ((1 + 1) + 1 + 2 * (x1).toNatClampNeg) 8) then (fv_X5_find_75 ((1 + 1) + 1 + 2 * (x1).toNatClampNeg) (ps_st (ps_st (fv_X3_remember 1 M) ((1 + 1) + 1 + 2 * (x1).toNatClampNeg) 8 (((fv_X3_remember 1 M) ((1 + 1) + 1 + 2 * (x1).toNatClampNeg) 8) - x2)) ((1 + 1) + 1 + 2 * (x1).toNatClampNeg) 9 (((ps_st (fv_X3_remember 1 M) ((1 + 1) + 1 + 2 * (x1).toNatClampNeg) 8 (((fv_X3_remember 1 M) ((1 + 1) + 1 + 2 * (x1).toNatClampNeg) 8) - x2)) ((1 + 1) + 1 + 2 * (x1).toNatClampNeg) 9) + x2))) else (((-4 : Int32), M))))
def ok_X5_find (x1 : Int32) (x2 : Int32) (M : ps_M) : Prop := (ok_X2_hasStation 1 x1 M) ∧ (((fv_X2_hasStation 1 x1 M) = 0 → True) ∧ (¬ ((fv_X2_hasStation 1 x1 M) = 0) → ((ok_X5_isPaperNumber x2 M) ∧ (((fv_X5_isPaperNumber x2 M) = 0 → True) ∧ (¬ ((fv_X5_isPaperNumber x2 M) = 0) → ((vp_in x1 6) ∧ ((x2 ≤ (M ((1 + 1) + 1 + 2 * (x1).toNatClampNeg) 8) → ((ok_X3_remember 1 M) ∧ (ok_X5_find_75 ((1 + 1) + 1 + 2 * (x1).toNatClampNeg) (ps_st (ps_st (fv_X3_remember 1 M) ((1 + 1) + 1 + 2 * (x1).toNatClampNeg) 8 (((fv_X3_remember 1 M) ((1 + 1) + 1 + 2 * (x1).toNatClampNeg) 8) - x2)) ((1 + 1) + 1 + 2 * (x1).toNatClampNeg) 9 (((ps_st (fv_X3_remember 1 M) ((1 + 1) + 1 + 2 * (x1).toNatClampNeg) 8 (((fv_X3_remember 1 M) ((1 + 1) + 1 + 2 * (x1).toNatClampNeg) 8) - x2)) ((1 + 1) + 1 + 2 * (x1).toNatClampNeg) 9) + x2))))) ∧ (¬ (x2 ≤ (M ((1 + 1) + 1 + 2 * (x1).toNatClampNeg) 8)) → True))))))))
set_option maxRecDepth 100000 in
set_option maxHeartbeats 4000000 in
theorem bw_X5_find {E : ps_E} {X : ps_X (Int32 × ps_M)} (C : ps_C (ps_Yc E) X cX5_find RX5 (some .int) 4 82 4) (RT : ps_RI (ps_Yc E) X cX5_find .int) (x1 : Int32) (x2 : Int32) (M : ps_M) (hk : ok_X5_find x1 x2 M) : ps_G (ps_Yc E) X (fv_X5_find x1 x2 M) 0 [(0, .ref (ps_ad E 0)), (1, .int x1), (2, .int x2)] [] M := by
  unfold fv_X5_find
  unfold ok_X5_find at hk
  refine gw_aload_n C 1 dX5_find_0 0 rfl rfl ?_
  refine gf_X5_12 C 4 dX5_find_1 rfl ?_
  refine gw_iload_n C 5 dX5_find_4 1 rfl rfl ?_
  refine gw_cVp C 8 dX5_find_5 rfl yv_X2_hasStation lk_X5_62 [.int x1] [] rfl (ct_X2_hasStation (E := E) (l := ps_l X) 1 x1 kd_1 M hk.1) (rc_D kd_1) rfl (Nat.le_of_ble_eq_true rfl) (Nat.le_of_ble_eq_true rfl) (Nat.le_of_ble_eq_true rfl) ?_
  refine gw_if_ne C 13 11 dX5_find_8 (by decide) rfl (fun c8 => ?_) (fun c8 => ?_)
  · refine gw_iconst C 12 dX5_find_11 (v := (-1)) (by decide) rfl ?_
    exact RT _ _ _ _ dX5_find_12 rfl
  · refine gw_iload_n C 14 dX5_find_13 2 rfl rfl ?_
    refine gw_cSp C 17 dX5_find_14 rfl yv_X5_isPaperNumber lk_X5_113 [.int x2] [] rfl (ct_X5_isPaperNumber (E := E) (l := ps_l X) x2 M (hk.2.2 c8).1) rfl (Nat.le_of_ble_eq_true rfl) (Nat.le_of_ble_eq_true rfl) (Nat.le_of_ble_eq_true rfl) ?_
    refine gw_if_ne C 23 20 dX5_find_17 (by decide) rfl (fun c17 => ?_) (fun c17 => ?_)
    · refine gw_bipush C 22 dX5_find_20 (v := (-2)) (by decide) rfl ?_
      exact RT _ _ _ _ dX5_find_22 rfl
    · refine gw_aload_n C 24 dX5_find_23 0 rfl rfl ?_
      refine gf_X5_12 C 27 dX5_find_24 rfl ?_
      refine gf_X5_69 C 30 dX5_find_27 rfl kd_1 ?_
      refine gw_iload_n C 31 dX5_find_30 1 rfl rfl ?_
      refine gw_alS C 32 dX5_find_31 rfl (kd_d1 kd_1) ((hk.2.2 c8).2.2 c17).1 ?_
      refine gw_astore_n C 33 dX5_find_32 rfl [(0, .ref (ps_ad E 0)), (1, .int x1), (2, .int x2), (3, .ref (ps_ad E ((1 + 1) + 1 + 2 * (x1).toNatClampNeg)))] [1, 2, 3, 0] (by decide) rfl ?_
      refine gw_aload_n C 34 dX5_find_33 3 rfl rfl ?_
      refine gf_X5_128 C 37 dX5_find_34 rfl (kd_S (kd_d1 kd_1) ((hk.2.2 c8).2.2 c17).1) ?_
      refine gw_iload_n C 38 dX5_find_37 2 rfl rfl ?_
      refine gw_ic_ge C 44 41 dX5_find_38 (by decide) rfl (fun c38 => ?_) (fun c38 => ?_)
      · refine gw_aload_n C 45 dX5_find_44 0 rfl rfl ?_
        refine gf_X5_32 C 48 dX5_find_45 rfl ?_
        refine gw_aload_n C 49 dX5_find_48 0 rfl rfl ?_
        refine gf_X5_12 C 52 dX5_find_49 rfl ?_
        refine gw_cVv C 55 dX5_find_52 rfl yv_X3_remember lk_X5_47 [.ref (ps_ad E 1)] [] rfl (ct_X3_remember (E := E) (l := ps_l X) 1 kd_1 M (((hk.2.2 c8).2.2 c17).2.1 c38).1) rc_H rfl (Nat.le_of_ble_eq_true rfl) (Nat.le_of_ble_eq_true rfl) (Nat.le_of_ble_eq_true rfl) ?_
        refine gw_aload_n C 56 dX5_find_55 3 rfl rfl ?_
        refine gw_dup C 57 dX5_find_56 rfl rfl ?_
        refine gf_X5_128 C 60 dX5_find_57 rfl (kd_S (kd_d1 kd_1) ((hk.2.2 c8).2.2 c17).1) ?_
        refine gw_iload_n C 61 dX5_find_60 2 rfl rfl ?_
        refine gw_isub C 62 dX5_find_61 rfl ?_
        refine pf_X5_128 C 65 dX5_find_62 rfl (kd_S (kd_d1 kd_1) ((hk.2.2 c8).2.2 c17).1) ?_
        refine gw_aload_n C 66 dX5_find_65 3 rfl rfl ?_
        refine gw_dup C 67 dX5_find_66 rfl rfl ?_
        refine gf_X5_131 C 70 dX5_find_67 rfl (kd_S (kd_d1 kd_1) ((hk.2.2 c8).2.2 c17).1) ?_
        refine gw_iload_n C 71 dX5_find_70 2 rfl rfl ?_
        refine gw_iadd C 72 dX5_find_71 rfl ?_
        refine pf_X5_131 C 75 dX5_find_72 rfl (kd_S (kd_d1 kd_1) ((hk.2.2 c8).2.2 c17).1) ?_
        refine gw_sub C [(3, .ref (ps_ad E ((1 + 1) + 1 + 2 * (x1).toNatClampNeg)))] [3] rfl ?_
        exact bw_X5_find_75 C RT  ((1 + 1) + 1 + 2 * (x1).toNatClampNeg) (kd_S (kd_d1 kd_1) ((hk.2.2 c8).2.2 c17).1) (ps_st (ps_st (fv_X3_remember 1 M) ((1 + 1) + 1 + 2 * (x1).toNatClampNeg) 8 (((fv_X3_remember 1 M) ((1 + 1) + 1 + 2 * (x1).toNatClampNeg) 8) - x2)) ((1 + 1) + 1 + 2 * (x1).toNatClampNeg) 9 (((ps_st (fv_X3_remember 1 M) ((1 + 1) + 1 + 2 * (x1).toNatClampNeg) 8 (((fv_X3_remember 1 M) ((1 + 1) + 1 + 2 * (x1).toNatClampNeg) 8) - x2)) ((1 + 1) + 1 + 2 * (x1).toNatClampNeg) 9) + x2)) (((hk.2.2 c8).2.2 c17).2.1 c38).2
      · refine gw_bipush C 43 dX5_find_41 (v := (-4)) (by decide) rfl ?_
        exact RT _ _ _ _ dX5_find_43 rfl
theorem ct_X5_find {E : ps_E} {l : Launch} (x1 : Int32) (x2 : Int32)  (M : ps_M) (hk : ok_X5_find x1 x2 M) : ps_CI (ps_Yc E) l yX5_find cX5_find 4 (some .int) 4 82 [.ref (ps_ad E 0), .int x1, .int x2] M (fv_X5_find x1 x2 M) := ps_metI RX5 (by decide) rfl (Nat.le_of_ble_eq_true rfl) rfl (fun X _ C RT => bw_X5_find C RT x1 x2 M hk)
def fv_X5_countBox_95 (k3 : Nat) (M : ps_M) : Int32 × ps_M := ((M k3 12), M)
def ok_X5_countBox_95 (k3 : Nat) (M : ps_M) : Prop := True
set_option maxRecDepth 100000 in
set_option maxHeartbeats 4000000 in
theorem bw_X5_countBox_95 {E : ps_E} {X : ps_X (Int32 × ps_M)} (C : ps_C (ps_Yc E) X cX5_countBox RX5 (some .int) 4 82 4) (RT : ps_RI (ps_Yc E) X cX5_countBox .int) (k3 : Nat) (hk3 : ps_kd k3 = 4) (M : ps_M) (hk : ok_X5_countBox_95 k3 M) : ps_G (ps_Yc E) X (fv_X5_countBox_95 k3 M) 95 [(3, .ref (ps_ad E k3))] [] M := by
  unfold fv_X5_countBox_95
  unfold ok_X5_countBox_95 at hk
  refine gw_aload_n C 96 dX5_countBox_95 0 rfl rfl ?_
  refine gf_X5_138 C 99 dX5_countBox_96 rfl hk3 ?_
  exact RT _ _ _ _ dX5_countBox_99 rfl
def fv_X5_countBox (x1 : Int32) (x2 : Int32) (M : ps_M) : Int32 × ps_M := if (fv_X2_hasStation 1 x1 M) = 0 then (((-1 : Int32), M)) else (if (fv_X5_isWithin x2 (0 : Int32) (99999 : Int32) M) = 0 then (((-2 : Int32), M)) else (if (M 1 0) < (15 : Int32) then (((-4 : Int32), M)) else (if (M ((1 + 1) + 1 + 2 * (x1).toNatClampNeg) 1) ≤ 0 then (if (M ((1 + 1) + 1 + 2 * (x1).toNatClampNeg) 12) < (3 : Int32) then (fv_X5_countBox_95 ((1 + 1) + 1 + 2 * (x1).toNatClampNeg) (ps_st (ps_st (fv_X3_remember 1 M) ((1 + 1) + 1 + 2 * (x1).toNatClampNeg) 11 x2) ((1 + 1) + 1 + 2 * (x1).toNatClampNeg) 12 (((ps_st (fv_X3_remember 1 M) ((1 + 1) + 1 + 2 * (x1).toNatClampNeg) 11 x2) ((1 + 1) + 1 + 2 * (x1).toNatClampNeg) 12) + (1 : Int32)))) else (((-3 : Int32), M))) else (((-4 : Int32), M)))))
def ok_X5_countBox (x1 : Int32) (x2 : Int32) (M : ps_M) : Prop := (ok_X2_hasStation 1 x1 M) ∧ (((fv_X2_hasStation 1 x1 M) = 0 → True) ∧ (¬ ((fv_X2_hasStation 1 x1 M) = 0) → ((ok_X5_isWithin x2 (0 : Int32) (99999 : Int32) M) ∧ (((fv_X5_isWithin x2 (0 : Int32) (99999 : Int32) M) = 0 → True) ∧ (¬ ((fv_X5_isWithin x2 (0 : Int32) (99999 : Int32) M) = 0) → ((vp_in x1 6) ∧ (((M 1 0) < (15 : Int32) → True) ∧ (¬ ((M 1 0) < (15 : Int32)) → (((M ((1 + 1) + 1 + 2 * (x1).toNatClampNeg) 1) ≤ 0 → (((M ((1 + 1) + 1 + 2 * (x1).toNatClampNeg) 12) < (3 : Int32) → ((ok_X3_remember 1 M) ∧ (ok_X5_countBox_95 ((1 + 1) + 1 + 2 * (x1).toNatClampNeg) (ps_st (ps_st (fv_X3_remember 1 M) ((1 + 1) + 1 + 2 * (x1).toNatClampNeg) 11 x2) ((1 + 1) + 1 + 2 * (x1).toNatClampNeg) 12 (((ps_st (fv_X3_remember 1 M) ((1 + 1) + 1 + 2 * (x1).toNatClampNeg) 11 x2) ((1 + 1) + 1 + 2 * (x1).toNatClampNeg) 12) + (1 : Int32)))))) ∧ (¬ ((M ((1 + 1) + 1 + 2 * (x1).toNatClampNeg) 12) < (3 : Int32)) → True))) ∧ (¬ ((M ((1 + 1) + 1 + 2 * (x1).toNatClampNeg) 1) ≤ 0) → True))))))))))
set_option maxRecDepth 100000 in
set_option maxHeartbeats 4000000 in
theorem bw_X5_countBox {E : ps_E} {X : ps_X (Int32 × ps_M)} (C : ps_C (ps_Yc E) X cX5_countBox RX5 (some .int) 4 82 4) (RT : ps_RI (ps_Yc E) X cX5_countBox .int) (x1 : Int32) (x2 : Int32) (M : ps_M) (hk : ok_X5_countBox x1 x2 M) : ps_G (ps_Yc E) X (fv_X5_countBox x1 x2 M) 0 [(0, .ref (ps_ad E 0)), (1, .int x1), (2, .int x2)] [] M := by
  unfold fv_X5_countBox
  unfold ok_X5_countBox at hk
  refine gw_aload_n C 1 dX5_countBox_0 0 rfl rfl ?_
  refine gf_X5_12 C 4 dX5_countBox_1 rfl ?_
  refine gw_iload_n C 5 dX5_countBox_4 1 rfl rfl ?_
  refine gw_cVp C 8 dX5_countBox_5 rfl yv_X2_hasStation lk_X5_62 [.int x1] [] rfl (ct_X2_hasStation (E := E) (l := ps_l X) 1 x1 kd_1 M hk.1) (rc_D kd_1) rfl (Nat.le_of_ble_eq_true rfl) (Nat.le_of_ble_eq_true rfl) (Nat.le_of_ble_eq_true rfl) ?_
  refine gw_if_ne C 13 11 dX5_countBox_8 (by decide) rfl (fun c8 => ?_) (fun c8 => ?_)
  · refine gw_iconst C 12 dX5_countBox_11 (v := (-1)) (by decide) rfl ?_
    exact RT _ _ _ _ dX5_countBox_12 rfl
  · refine gw_iload_n C 14 dX5_countBox_13 2 rfl rfl ?_
    refine gw_iconst C 15 dX5_countBox_14 (v := 0) (by decide) rfl ?_
    refine gw_ldc C 17 dX5_countBox_15 lk_X5_134 rfl ?_
    refine gw_cSp C 20 dX5_countBox_17 rfl yv_X5_isWithin lk_X5_51 [.int x2, .int (0 : Int32), .int (99999 : Int32)] [] rfl (ct_X5_isWithin (E := E) (l := ps_l X) x2 (0 : Int32) (99999 : Int32) M (hk.2.2 c8).1) rfl (Nat.le_of_ble_eq_true rfl) (Nat.le_of_ble_eq_true rfl) (Nat.le_of_ble_eq_true rfl) ?_
    refine gw_if_ne C 26 23 dX5_countBox_20 (by decide) rfl (fun c20 => ?_) (fun c20 => ?_)
    · refine gw_bipush C 25 dX5_countBox_23 (v := (-2)) (by decide) rfl ?_
      exact RT _ _ _ _ dX5_countBox_25 rfl
    · refine gw_aload_n C 27 dX5_countBox_26 0 rfl rfl ?_
      refine gf_X5_12 C 30 dX5_countBox_27 rfl ?_
      refine gf_X5_69 C 33 dX5_countBox_30 rfl kd_1 ?_
      refine gw_iload_n C 34 dX5_countBox_33 1 rfl rfl ?_
      refine gw_alS C 35 dX5_countBox_34 rfl (kd_d1 kd_1) ((hk.2.2 c8).2.2 c20).1 ?_
      refine gw_astore_n C 36 dX5_countBox_35 rfl [(0, .ref (ps_ad E 0)), (1, .int x1), (2, .int x2), (3, .ref (ps_ad E ((1 + 1) + 1 + 2 * (x1).toNatClampNeg)))] [1, 2, 3, 0] (by decide) rfl ?_
      refine gw_aload_n C 37 dX5_countBox_36 0 rfl rfl ?_
      refine gf_X5_12 C 40 dX5_countBox_37 rfl ?_
      refine gf_X5_107 C 43 dX5_countBox_40 rfl kd_1 ?_
      refine gw_bipush C 45 dX5_countBox_43 (v := 15) (by decide) rfl ?_
      refine gw_ic_lt C 55 48 dX5_countBox_45 (by decide) rfl (fun c45 => ?_) (fun c45 => ?_)
      · refine gw_bipush C 57 dX5_countBox_55 (v := (-4)) (by decide) rfl ?_
        exact RT _ _ _ _ dX5_countBox_57 rfl
      · refine gw_aload_n C 49 dX5_countBox_48 3 rfl rfl ?_
        refine gf_X5_135 C 52 dX5_countBox_49 rfl (kd_S (kd_d1 kd_1) ((hk.2.2 c8).2.2 c20).1) ?_
        refine gw_if_le C 58 55 dX5_countBox_52 (by decide) rfl (fun c52 => ?_) (fun c52 => ?_)
        · refine gw_aload_n C 59 dX5_countBox_58 3 rfl rfl ?_
          refine gf_X5_138 C 62 dX5_countBox_59 rfl (kd_S (kd_d1 kd_1) ((hk.2.2 c8).2.2 c20).1) ?_
          refine gw_iconst C 63 dX5_countBox_62 (v := 3) (by decide) rfl ?_
          refine gw_ic_lt C 69 66 dX5_countBox_63 (by decide) rfl (fun c63 => ?_) (fun c63 => ?_)
          · refine gw_aload_n C 70 dX5_countBox_69 0 rfl rfl ?_
            refine gf_X5_32 C 73 dX5_countBox_70 rfl ?_
            refine gw_aload_n C 74 dX5_countBox_73 0 rfl rfl ?_
            refine gf_X5_12 C 77 dX5_countBox_74 rfl ?_
            refine gw_cVv C 80 dX5_countBox_77 rfl yv_X3_remember lk_X5_47 [.ref (ps_ad E 1)] [] rfl (ct_X3_remember (E := E) (l := ps_l X) 1 kd_1 M (((((hk.2.2 c8).2.2 c20).2.2 c45).1 c52).1 c63).1) rc_H rfl (Nat.le_of_ble_eq_true rfl) (Nat.le_of_ble_eq_true rfl) (Nat.le_of_ble_eq_true rfl) ?_
            refine gw_aload_n C 81 dX5_countBox_80 3 rfl rfl ?_
            refine gw_iload_n C 82 dX5_countBox_81 2 rfl rfl ?_
            refine pf_X5_141 C 85 dX5_countBox_82 rfl (kd_S (kd_d1 kd_1) ((hk.2.2 c8).2.2 c20).1) ?_
            refine gw_aload_n C 86 dX5_countBox_85 3 rfl rfl ?_
            refine gw_dup C 87 dX5_countBox_86 rfl rfl ?_
            refine gf_X5_138 C 90 dX5_countBox_87 rfl (kd_S (kd_d1 kd_1) ((hk.2.2 c8).2.2 c20).1) ?_
            refine gw_iconst C 91 dX5_countBox_90 (v := 1) (by decide) rfl ?_
            refine gw_iadd C 92 dX5_countBox_91 rfl ?_
            refine pf_X5_138 C 95 dX5_countBox_92 rfl (kd_S (kd_d1 kd_1) ((hk.2.2 c8).2.2 c20).1) ?_
            refine gw_sub C [(3, .ref (ps_ad E ((1 + 1) + 1 + 2 * (x1).toNatClampNeg)))] [3] rfl ?_
            exact bw_X5_countBox_95 C RT  ((1 + 1) + 1 + 2 * (x1).toNatClampNeg) (kd_S (kd_d1 kd_1) ((hk.2.2 c8).2.2 c20).1) (ps_st (ps_st (fv_X3_remember 1 M) ((1 + 1) + 1 + 2 * (x1).toNatClampNeg) 11 x2) ((1 + 1) + 1 + 2 * (x1).toNatClampNeg) 12 (((ps_st (fv_X3_remember 1 M) ((1 + 1) + 1 + 2 * (x1).toNatClampNeg) 11 x2) ((1 + 1) + 1 + 2 * (x1).toNatClampNeg) 12) + (1 : Int32))) (((((hk.2.2 c8).2.2 c20).2.2 c45).1 c52).1 c63).2
          · refine gw_bipush C 68 dX5_countBox_66 (v := (-3)) (by decide) rfl ?_
            exact RT _ _ _ _ dX5_countBox_68 rfl
        · refine gw_bipush C 57 dX5_countBox_55 (v := (-4)) (by decide) rfl ?_
          exact RT _ _ _ _ dX5_countBox_57 rfl
theorem ct_X5_countBox {E : ps_E} {l : Launch} (x1 : Int32) (x2 : Int32)  (M : ps_M) (hk : ok_X5_countBox x1 x2 M) : ps_CI (ps_Yc E) l yX5_countBox cX5_countBox 4 (some .int) 4 82 [.ref (ps_ad E 0), .int x1, .int x2] M (fv_X5_countBox x1 x2 M) := ps_metI RX5 (by decide) rfl (Nat.le_of_ble_eq_true rfl) rfl (fun X _ C RT => bw_X5_countBox C RT x1 x2 M hk)
def fv_X5_readArrivals_118 (x4 : Int32) (M : ps_M) : Int32 × ps_M := (x4, M)
def ok_X5_readArrivals_118 (x4 : Int32) (M : ps_M) : Prop := True
set_option maxRecDepth 100000 in
set_option maxHeartbeats 4000000 in
theorem bw_X5_readArrivals_118 {E : ps_E} {X : ps_X (Int32 × ps_M)} (C : ps_C (ps_Yc E) X cX5_readArrivals RX5 (some .int) 4 82 5) (RT : ps_RI (ps_Yc E) X cX5_readArrivals .int) (x4 : Int32) (M : ps_M) (hk : ok_X5_readArrivals_118 x4 M) : ps_G (ps_Yc E) X (fv_X5_readArrivals_118 x4 M) 118 [(4, .int x4)] [] M := by
  unfold fv_X5_readArrivals_118
  unfold ok_X5_readArrivals_118 at hk
  refine gw_iload C 120 dX5_readArrivals_118 0 rfl rfl ?_
  exact RT _ _ _ _ dX5_readArrivals_120 rfl
def fv_X5_readArrivals (x1 : Int32) (x2 : Int32) (M : ps_M) : Int32 × ps_M := if (fv_X2_hasStation 1 x1 M) = 0 then (((-1 : Int32), M)) else (if (fv_X5_isHourToCome x2 M) = 0 then (((-2 : Int32), M)) else (if (fv_X0_fault M) = (-1 : Int32) then (if (fv_X0_greatestNumber ((fv_X0_readNumbers M).1) ((fv_X0_readNumbers M).2)) ≤ (500 : Int32) then (if (x2 + (fv_X0_readNumbers M).1) ≤ (15 : Int32) then (fv_X5_readArrivals_118 ((fv_X0_readNumbers M).1) (ps_cpy (fv_X3_remember 1 ((fv_X0_readNumbers M).2)) 196 ((0 : Int32)).toNatClampNeg (((1 + 1) + 1 + 2 * (x1).toNatClampNeg) + 1) (x2).toNatClampNeg ((fv_X0_readNumbers M).1).toNatClampNeg)) else (((-3 : Int32), (fv_X0_readNumbers M).2))) else (((-2 : Int32), (fv_X0_readNumbers M).2))) else ((((-100 : Int32) - (fv_X0_fault M)), M))))
def ok_X5_readArrivals (x1 : Int32) (x2 : Int32) (M : ps_M) : Prop := (ok_X2_hasStation 1 x1 M) ∧ (((fv_X2_hasStation 1 x1 M) = 0 → True) ∧ (¬ ((fv_X2_hasStation 1 x1 M) = 0) → ((ok_X5_isHourToCome x2 M) ∧ (((fv_X5_isHourToCome x2 M) = 0 → True) ∧ (¬ ((fv_X5_isHourToCome x2 M) = 0) → ((ok_X0_fault M) ∧ (((fv_X0_fault M) = (-1 : Int32) → ((ok_X0_readNumbers M) ∧ ((ok_X0_greatestNumber ((fv_X0_readNumbers M).1) ((fv_X0_readNumbers M).2)) ∧ (((fv_X0_greatestNumber ((fv_X0_readNumbers M).1) ((fv_X0_readNumbers M).2)) ≤ (500 : Int32) → (((x2 + (fv_X0_readNumbers M).1) ≤ (15 : Int32) → ((ok_X3_remember 1 ((fv_X0_readNumbers M).2)) ∧ ((vp_in x1 6) ∧ ((¬ (0 : Int32) < 0) ∧ ((¬ x2 < 0) ∧ ((¬ (fv_X0_readNumbers M).1 < 0) ∧ ((((0 : Int32)).toNatClampNeg + ((fv_X0_readNumbers M).1).toNatClampNeg ≤ 30) ∧ (((x2).toNatClampNeg + ((fv_X0_readNumbers M).1).toNatClampNeg ≤ 15) ∧ (ok_X5_readArrivals_118 ((fv_X0_readNumbers M).1) (ps_cpy (fv_X3_remember 1 ((fv_X0_readNumbers M).2)) 196 ((0 : Int32)).toNatClampNeg (((1 + 1) + 1 + 2 * (x1).toNatClampNeg) + 1) (x2).toNatClampNeg ((fv_X0_readNumbers M).1).toNatClampNeg)))))))))) ∧ (¬ ((x2 + (fv_X0_readNumbers M).1) ≤ (15 : Int32)) → True))) ∧ (¬ ((fv_X0_greatestNumber ((fv_X0_readNumbers M).1) ((fv_X0_readNumbers M).2)) ≤ (500 : Int32)) → True))))) ∧ (¬ ((fv_X0_fault M) = (-1 : Int32)) → True))))))))
set_option maxRecDepth 100000 in
set_option maxHeartbeats 4000000 in
theorem bw_X5_readArrivals {E : ps_E} {X : ps_X (Int32 × ps_M)} (C : ps_C (ps_Yc E) X cX5_readArrivals RX5 (some .int) 4 82 5) (RT : ps_RI (ps_Yc E) X cX5_readArrivals .int) (x1 : Int32) (x2 : Int32) (M : ps_M) (hk : ok_X5_readArrivals x1 x2 M) : ps_G (ps_Yc E) X (fv_X5_readArrivals x1 x2 M) 0 [(0, .ref (ps_ad E 0)), (1, .int x1), (2, .int x2)] [] M := by
  unfold fv_X5_readArrivals
  unfold ok_X5_readArrivals at hk
  refine gw_aload_n C 1 dX5_readArrivals_0 0 rfl rfl ?_
  refine gf_X5_12 C 4 dX5_readArrivals_1 rfl ?_
  refine gw_iload_n C 5 dX5_readArrivals_4 1 rfl rfl ?_
  refine gw_cVp C 8 dX5_readArrivals_5 rfl yv_X2_hasStation lk_X5_62 [.int x1] [] rfl (ct_X2_hasStation (E := E) (l := ps_l X) 1 x1 kd_1 M hk.1) (rc_D kd_1) rfl (Nat.le_of_ble_eq_true rfl) (Nat.le_of_ble_eq_true rfl) (Nat.le_of_ble_eq_true rfl) ?_
  refine gw_if_ne C 13 11 dX5_readArrivals_8 (by decide) rfl (fun c8 => ?_) (fun c8 => ?_)
  · refine gw_iconst C 12 dX5_readArrivals_11 (v := (-1)) (by decide) rfl ?_
    exact RT _ _ _ _ dX5_readArrivals_12 rfl
  · refine gw_aload_n C 14 dX5_readArrivals_13 0 rfl rfl ?_
    refine gw_iload_n C 15 dX5_readArrivals_14 2 rfl rfl ?_
    refine gw_cVp C 18 dX5_readArrivals_15 rfl yv_X5_isHourToCome lk_X5_66 [.int x2] [] rfl (ct_X5_isHourToCome (E := E) (l := ps_l X) x2 M (hk.2.2 c8).1) rc_P rfl (Nat.le_of_ble_eq_true rfl) (Nat.le_of_ble_eq_true rfl) (Nat.le_of_ble_eq_true rfl) ?_
    refine gw_if_ne C 24 21 dX5_readArrivals_18 (by decide) rfl (fun c18 => ?_) (fun c18 => ?_)
    · refine gw_bipush C 23 dX5_readArrivals_21 (v := (-2)) (by decide) rfl ?_
      exact RT _ _ _ _ dX5_readArrivals_23 rfl
    · refine gw_aload_n C 25 dX5_readArrivals_24 0 rfl rfl ?_
      refine gf_X5_39 C 28 dX5_readArrivals_25 rfl ?_
      refine gw_cVp C 31 dX5_readArrivals_28 rfl yv_X0_fault lk_X5_151 [] [] rfl (ct_X0_fault (E := E) (l := ps_l X) M ((hk.2.2 c8).2.2 c18).1) rc_T rfl (Nat.le_of_ble_eq_true rfl) (Nat.le_of_ble_eq_true rfl) (Nat.le_of_ble_eq_true rfl) ?_
      refine gw_istore_n C 32 dX5_readArrivals_31 rfl [(0, .ref (ps_ad E 0)), (1, .int x1), (2, .int x2), (3, .int (fv_X0_fault M))] [1, 2, 3, 0] (by decide) rfl ?_
      refine gw_iload_n C 33 dX5_readArrivals_32 3 rfl rfl ?_
      refine gw_iconst C 34 dX5_readArrivals_33 (v := (-1)) (by decide) rfl ?_
      refine gw_ic_eq C 42 37 dX5_readArrivals_34 (by decide) rfl (fun c34 => ?_) (fun c34 => ?_)
      · refine gw_aload_n C 43 dX5_readArrivals_42 0 rfl rfl ?_
        refine gf_X5_39 C 46 dX5_readArrivals_43 rfl ?_
        refine gw_cVi C 49 dX5_readArrivals_46 rfl yv_X0_readNumbers lk_X5_155 [] [] rfl (ct_X0_readNumbers (E := E) (l := ps_l X) M (((hk.2.2 c8).2.2 c18).2.1 c34).1) rc_T rfl (Nat.le_of_ble_eq_true rfl) (Nat.le_of_ble_eq_true rfl) (Nat.le_of_ble_eq_true rfl) ?_
        refine gw_istore C 51 dX5_readArrivals_49 rfl [(0, .ref (ps_ad E 0)), (1, .int x1), (2, .int x2), (3, .int (fv_X0_fault M)), (4, .int ((fv_X0_readNumbers M).1))] [1, 2, 3, 4, 0] (by decide) rfl ?_
        refine gw_aload_n C 52 dX5_readArrivals_51 0 rfl rfl ?_
        refine gf_X5_39 C 55 dX5_readArrivals_52 rfl ?_
        refine gw_iload C 57 dX5_readArrivals_55 4 rfl rfl ?_
        refine gw_cVp C 60 dX5_readArrivals_57 rfl yv_X0_greatestNumber lk_X5_158 [.int ((fv_X0_readNumbers M).1)] [] rfl (ct_X0_greatestNumber (E := E) (l := ps_l X) ((fv_X0_readNumbers M).1) ((fv_X0_readNumbers M).2) (((hk.2.2 c8).2.2 c18).2.1 c34).2.1) rc_T rfl (Nat.le_of_ble_eq_true rfl) (Nat.le_of_ble_eq_true rfl) (Nat.le_of_ble_eq_true rfl) ?_
        refine gw_sipush C 63 dX5_readArrivals_60 (v := 500) (by decide) rfl ?_
        refine gw_ic_le C 69 66 dX5_readArrivals_63 (by decide) rfl (fun c63 => ?_) (fun c63 => ?_)
        · refine gw_iload_n C 70 dX5_readArrivals_69 2 rfl rfl ?_
          refine gw_iload C 72 dX5_readArrivals_70 4 rfl rfl ?_
          refine gw_iadd C 73 dX5_readArrivals_72 rfl ?_
          refine gw_bipush C 75 dX5_readArrivals_73 (v := 15) (by decide) rfl ?_
          refine gw_ic_le C 81 78 dX5_readArrivals_75 (by decide) rfl (fun c75 => ?_) (fun c75 => ?_)
          · refine gw_aload_n C 82 dX5_readArrivals_81 0 rfl rfl ?_
            refine gf_X5_32 C 85 dX5_readArrivals_82 rfl ?_
            refine gw_aload_n C 86 dX5_readArrivals_85 0 rfl rfl ?_
            refine gf_X5_12 C 89 dX5_readArrivals_86 rfl ?_
            refine gw_cVv C 92 dX5_readArrivals_89 rfl yv_X3_remember lk_X5_47 [.ref (ps_ad E 1)] [] rfl (ct_X3_remember (E := E) (l := ps_l X) 1 kd_1 ((fv_X0_readNumbers M).2) (((((hk.2.2 c8).2.2 c18).2.1 c34).2.2.1 c63).1 c75).1) rc_H rfl (Nat.le_of_ble_eq_true rfl) (Nat.le_of_ble_eq_true rfl) (Nat.le_of_ble_eq_true rfl) ?_
            refine gw_aload_n C 93 dX5_readArrivals_92 0 rfl rfl ?_
            refine gf_X5_39 C 96 dX5_readArrivals_93 rfl ?_
            refine gf_X5_161 C 99 dX5_readArrivals_96 rfl ?_
            refine gw_iconst C 100 dX5_readArrivals_99 (v := 0) (by decide) rfl ?_
            refine gw_aload_n C 101 dX5_readArrivals_100 0 rfl rfl ?_
            refine gf_X5_12 C 104 dX5_readArrivals_101 rfl ?_
            refine gf_X5_69 C 107 dX5_readArrivals_104 rfl kd_1 ?_
            refine gw_iload_n C 108 dX5_readArrivals_107 1 rfl rfl ?_
            refine gw_alS C 109 dX5_readArrivals_108 rfl (kd_d1 kd_1) (((((hk.2.2 c8).2.2 c18).2.1 c34).2.2.1 c63).1 c75).2.1 ?_
            refine gf_X5_73 C 112 dX5_readArrivals_109 rfl (kd_S (kd_d1 kd_1) (((((hk.2.2 c8).2.2 c18).2.1 c34).2.2.1 c63).1 c75).2.1) ?_
            refine gw_iload_n C 113 dX5_readArrivals_112 2 rfl rfl ?_
            refine gw_iload C 115 dX5_readArrivals_113 4 rfl rfl ?_
            refine gw_copy C 118 dX5_readArrivals_115 rfl lk_X5_164 (Or.inr kd_196) (Or.inl (kd_s1 (kd_S (kd_d1 kd_1) (((((hk.2.2 c8).2.2 c18).2.1 c34).2.2.1 c63).1 c75).2.1))) (((((hk.2.2 c8).2.2 c18).2.1 c34).2.2.1 c63).1 c75).2.2.1 (((((hk.2.2 c8).2.2 c18).2.1 c34).2.2.1 c63).1 c75).2.2.2.1 (((((hk.2.2 c8).2.2 c18).2.1 c34).2.2.1 c63).1 c75).2.2.2.2.1 (by rw [ps_cln_I30 kd_196]; exact (((((hk.2.2 c8).2.2 c18).2.1 c34).2.2.1 c63).1 c75).2.2.2.2.2.1) (by rw [ps_cln_I15 (kd_s1 (kd_S (kd_d1 kd_1) (((((hk.2.2 c8).2.2 c18).2.1 c34).2.2.1 c63).1 c75).2.1))]; exact (((((hk.2.2 c8).2.2 c18).2.1 c34).2.2.1 c63).1 c75).2.2.2.2.2.2.1) (Nat.le_of_ble_eq_true rfl) (by decide +kernel) ?_
            refine gw_sub C [(4, .int ((fv_X0_readNumbers M).1))] [4] rfl ?_
            exact bw_X5_readArrivals_118 C RT  ((fv_X0_readNumbers M).1) (ps_cpy (fv_X3_remember 1 ((fv_X0_readNumbers M).2)) 196 ((0 : Int32)).toNatClampNeg (((1 + 1) + 1 + 2 * (x1).toNatClampNeg) + 1) (x2).toNatClampNeg ((fv_X0_readNumbers M).1).toNatClampNeg) (((((hk.2.2 c8).2.2 c18).2.1 c34).2.2.1 c63).1 c75).2.2.2.2.2.2.2
          · refine gw_bipush C 80 dX5_readArrivals_78 (v := (-3)) (by decide) rfl ?_
            exact RT _ _ _ _ dX5_readArrivals_80 rfl
        · refine gw_bipush C 68 dX5_readArrivals_66 (v := (-2)) (by decide) rfl ?_
          exact RT _ _ _ _ dX5_readArrivals_68 rfl
      · refine gw_bipush C 39 dX5_readArrivals_37 (v := (-100)) (by decide) rfl ?_
        refine gw_iload_n C 40 dX5_readArrivals_39 3 rfl rfl ?_
        refine gw_isub C 41 dX5_readArrivals_40 rfl ?_
        exact RT _ _ _ _ dX5_readArrivals_41 rfl
theorem ct_X5_readArrivals {E : ps_E} {l : Launch} (x1 : Int32) (x2 : Int32)  (M : ps_M) (hk : ok_X5_readArrivals x1 x2 M) : ps_CI (ps_Yc E) l yX5_readArrivals cX5_readArrivals 5 (some .int) 4 82 [.ref (ps_ad E 0), .int x1, .int x2] M (fv_X5_readArrivals x1 x2 M) := ps_metI RX5 (by decide) rfl (Nat.le_of_ble_eq_true rfl) rfl (fun X _ C RT => bw_X5_readArrivals C RT x1 x2 M hk)
def fv_X5_undo  (M : ps_M) : Int32 × ps_M := if 0 < (M 84 1) then ((((fv_X3_takeBackInto 1 M) 84 1), (fv_X3_takeBackInto 1 M))) else (((-5 : Int32), M))
def ok_X5_undo  (M : ps_M) : Prop := (0 < (M 84 1) → ((ok_X3_takeBackInto 1 M) ∧ True)) ∧ (¬ (0 < (M 84 1)) → True)
set_option maxRecDepth 100000 in
set_option maxHeartbeats 4000000 in
theorem bw_X5_undo {E : ps_E} {X : ps_X (Int32 × ps_M)} (C : ps_C (ps_Yc E) X cX5_undo RX5 (some .int) 4 82 1) (RT : ps_RI (ps_Yc E) X cX5_undo .int)  (M : ps_M) (hk : ok_X5_undo  M) : ps_G (ps_Yc E) X (fv_X5_undo  M) 0 [(0, .ref (ps_ad E 0))] [] M := by
  unfold fv_X5_undo
  unfold ok_X5_undo at hk
  refine gw_aload_n C 1 dX5_undo_0 0 rfl rfl ?_
  refine gf_X5_32 C 4 dX5_undo_1 rfl ?_
  refine gf_X5_170 C 7 dX5_undo_4 rfl ?_
  refine gw_if_gt C 13 10 dX5_undo_7 (by decide) rfl (fun c7 => ?_) (fun c7 => ?_)
  · refine gw_aload_n C 14 dX5_undo_13 0 rfl rfl ?_
    refine gf_X5_32 C 17 dX5_undo_14 rfl ?_
    refine gw_aload_n C 18 dX5_undo_17 0 rfl rfl ?_
    refine gf_X5_12 C 21 dX5_undo_18 rfl ?_
    refine gw_cVv C 24 dX5_undo_21 rfl yv_X3_takeBackInto lk_X5_173 [.ref (ps_ad E 1)] [] rfl (ct_X3_takeBackInto (E := E) (l := ps_l X) 1 kd_1 M (hk.1 c7).1) rc_H rfl (Nat.le_of_ble_eq_true rfl) (Nat.le_of_ble_eq_true rfl) (Nat.le_of_ble_eq_true rfl) ?_
    refine gw_aload_n C 25 dX5_undo_24 0 rfl rfl ?_
    refine gf_X5_32 C 28 dX5_undo_25 rfl ?_
    refine gf_X5_170 C 31 dX5_undo_28 rfl ?_
    exact RT _ _ _ _ dX5_undo_31 rfl
  · refine gw_bipush C 12 dX5_undo_10 (v := (-5)) (by decide) rfl ?_
    exact RT _ _ _ _ dX5_undo_12 rfl
theorem ct_X5_undo {E : ps_E} {l : Launch}   (M : ps_M) (hk : ok_X5_undo  M) : ps_CI (ps_Yc E) l yX5_undo cX5_undo 1 (some .int) 4 82 [.ref (ps_ad E 0)] M (fv_X5_undo  M) := ps_metI RX5 (by decide) rfl (Nat.le_of_ble_eq_true rfl) rfl (fun X _ C RT => bw_X5_undo C RT M hk)
def fv_X5_keep  (M : ps_M) : Int32 × ps_M := (((ps_st (fv_X2_copyFrom 55 1 M) 0 3 (1 : Int32)) 1 0), (ps_st (fv_X2_copyFrom 55 1 M) 0 3 (1 : Int32)))
def ok_X5_keep  (M : ps_M) : Prop := (ok_X2_copyFrom 55 1 M) ∧ True
set_option maxRecDepth 100000 in
set_option maxHeartbeats 4000000 in
theorem bw_X5_keep {E : ps_E} {X : ps_X (Int32 × ps_M)} (C : ps_C (ps_Yc E) X cX5_keep RX5 (some .int) 3 61 1) (RT : ps_RI (ps_Yc E) X cX5_keep .int)  (M : ps_M) (hk : ok_X5_keep  M) : ps_G (ps_Yc E) X (fv_X5_keep  M) 0 [(0, .ref (ps_ad E 0))] [] M := by
  unfold fv_X5_keep
  unfold ok_X5_keep at hk
  refine gw_aload_n C 1 dX5_keep_0 0 rfl rfl ?_
  refine gf_X5_19 C 4 dX5_keep_1 rfl ?_
  refine gw_aload_n C 5 dX5_keep_4 0 rfl rfl ?_
  refine gf_X5_12 C 8 dX5_keep_5 rfl ?_
  refine gw_cVv C 11 dX5_keep_8 rfl yv_X2_copyFrom lk_X5_176 [.ref (ps_ad E 1)] [] rfl (ct_X2_copyFrom (E := E) (l := ps_l X) 55 1 kd_55 kd_1 M hk.1) (rc_D kd_55) rfl (Nat.le_of_ble_eq_true rfl) (Nat.le_of_ble_eq_true rfl) (Nat.le_of_ble_eq_true rfl) ?_
  refine gw_aload_n C 12 dX5_keep_11 0 rfl rfl ?_
  refine gw_iconst C 13 dX5_keep_12 (v := 1) (by decide) rfl ?_
  refine pf_X5_179 C 16 dX5_keep_13 rfl ps_nb1 (by decide) ?_
  refine gw_aload_n C 17 dX5_keep_16 0 rfl rfl ?_
  refine gf_X5_12 C 20 dX5_keep_17 rfl ?_
  refine gf_X5_107 C 23 dX5_keep_20 rfl kd_1 ?_
  exact RT _ _ _ _ dX5_keep_23 rfl
theorem ct_X5_keep {E : ps_E} {l : Launch}   (M : ps_M) (hk : ok_X5_keep  M) : ps_CI (ps_Yc E) l yX5_keep cX5_keep 1 (some .int) 3 61 [.ref (ps_ad E 0)] M (fv_X5_keep  M) := ps_metI RX5 (by decide) rfl (Nat.le_of_ble_eq_true rfl) rfl (fun X _ C RT => bw_X5_keep C RT M hk)
def fv_X5_restore  (M : ps_M) : Int32 × ps_M := if (M 0 3) = 0 then (((-5 : Int32), M)) else ((((fv_X2_copyFrom 1 55 (fv_X3_remember 1 M)) 1 0), (fv_X2_copyFrom 1 55 (fv_X3_remember 1 M))))
def ok_X5_restore  (M : ps_M) : Prop := ((M 0 3) = 0 → True) ∧ (¬ ((M 0 3) = 0) → ((ok_X3_remember 1 M) ∧ ((ok_X2_copyFrom 1 55 (fv_X3_remember 1 M)) ∧ True)))
set_option maxRecDepth 100000 in
set_option maxHeartbeats 4000000 in
theorem bw_X5_restore {E : ps_E} {X : ps_X (Int32 × ps_M)} (C : ps_C (ps_Yc E) X cX5_restore RX5 (some .int) 4 82 1) (RT : ps_RI (ps_Yc E) X cX5_restore .int)  (M : ps_M) (hk : ok_X5_restore  M) : ps_G (ps_Yc E) X (fv_X5_restore  M) 0 [(0, .ref (ps_ad E 0))] [] M := by
  unfold fv_X5_restore
  unfold ok_X5_restore at hk
  refine gw_aload_n C 1 dX5_restore_0 0 rfl rfl ?_
  refine gf_X5_179 C 4 dX5_restore_1 rfl ?_
  refine gw_if_ne C 10 7 dX5_restore_4 (by decide) rfl (fun c4 => ?_) (fun c4 => ?_)
  · refine gw_bipush C 9 dX5_restore_7 (v := (-5)) (by decide) rfl ?_
    exact RT _ _ _ _ dX5_restore_9 rfl
  · refine gw_aload_n C 11 dX5_restore_10 0 rfl rfl ?_
    refine gf_X5_32 C 14 dX5_restore_11 rfl ?_
    refine gw_aload_n C 15 dX5_restore_14 0 rfl rfl ?_
    refine gf_X5_12 C 18 dX5_restore_15 rfl ?_
    refine gw_cVv C 21 dX5_restore_18 rfl yv_X3_remember lk_X5_47 [.ref (ps_ad E 1)] [] rfl (ct_X3_remember (E := E) (l := ps_l X) 1 kd_1 M (hk.2 c4).1) rc_H rfl (Nat.le_of_ble_eq_true rfl) (Nat.le_of_ble_eq_true rfl) (Nat.le_of_ble_eq_true rfl) ?_
    refine gw_aload_n C 22 dX5_restore_21 0 rfl rfl ?_
    refine gf_X5_12 C 25 dX5_restore_22 rfl ?_
    refine gw_aload_n C 26 dX5_restore_25 0 rfl rfl ?_
    refine gf_X5_19 C 29 dX5_restore_26 rfl ?_
    refine gw_cVv C 32 dX5_restore_29 rfl yv_X2_copyFrom lk_X5_176 [.ref (ps_ad E 55)] [] rfl (ct_X2_copyFrom (E := E) (l := ps_l X) 1 55 kd_1 kd_55 (fv_X3_remember 1 M) (hk.2 c4).2.1) (rc_D kd_1) rfl (Nat.le_of_ble_eq_true rfl) (Nat.le_of_ble_eq_true rfl) (Nat.le_of_ble_eq_true rfl) ?_
    refine gw_aload_n C 33 dX5_restore_32 0 rfl rfl ?_
    refine gf_X5_12 C 36 dX5_restore_33 rfl ?_
    refine gf_X5_107 C 39 dX5_restore_36 rfl kd_1 ?_
    exact RT _ _ _ _ dX5_restore_39 rfl
theorem ct_X5_restore {E : ps_E} {l : Launch}   (M : ps_M) (hk : ok_X5_restore  M) : ps_CI (ps_Yc E) l yX5_restore cX5_restore 1 (some .int) 4 82 [.ref (ps_ad E 0)] M (fv_X5_restore  M) := ps_metI RX5 (by decide) rfl (Nat.le_of_ble_eq_true rfl) rfl (fun X _ C RT => bw_X5_restore C RT M hk)
def fv_X5_station (x1 : Int32) (x2 : Int32) (M : ps_M) : Int32 := if (fv_X2_hasStation 1 x1 M) = 0 then ((-1 : Int32)) else (if x2 = (0 : Int32) then ((M ((1 + 1) + 1 + 2 * (x1).toNatClampNeg) 1)) else (if x2 = (1 : Int32) then ((M ((1 + 1) + 1 + 2 * (x1).toNatClampNeg) 2)) else (if x2 = (2 : Int32) then ((M ((1 + 1) + 1 + 2 * (x1).toNatClampNeg) 3)) else (if x2 = (3 : Int32) then ((M ((1 + 1) + 1 + 2 * (x1).toNatClampNeg) 4)) else (if x2 = (4 : Int32) then ((fv_X2_clerksAt 1 x1 M)) else (if x2 = (5 : Int32) then ((fv_X2_servedAnHourAt 1 x1 M)) else (if x2 = (6 : Int32) then ((fv_X4_allArrivals ((1 + 1) + 1 + 2 * (x1).toNatClampNeg) M)) else (if x2 = (7 : Int32) then ((fv_X2_hoursForQueueOf 1 x1 M)) else ((-2 : Int32))))))))))
def ok_X5_station (x1 : Int32) (x2 : Int32) (M : ps_M) : Prop := (ok_X2_hasStation 1 x1 M) ∧ (((fv_X2_hasStation 1 x1 M) = 0 → True) ∧ (¬ ((fv_X2_hasStation 1 x1 M) = 0) → ((vp_in x1 6) ∧ ((x2 = (0 : Int32) → True) ∧ (¬ (x2 = (0 : Int32)) → ((x2 = (1 : Int32) → True) ∧ (¬ (x2 = (1 : Int32)) → ((x2 = (2 : Int32) → True) ∧ (¬ (x2 = (2 : Int32)) → ((x2 = (3 : Int32) → True) ∧ (¬ (x2 = (3 : Int32)) → ((x2 = (4 : Int32) → ((ok_X2_clerksAt 1 x1 M) ∧ True)) ∧ (¬ (x2 = (4 : Int32)) → ((x2 = (5 : Int32) → ((ok_X2_servedAnHourAt 1 x1 M) ∧ True)) ∧ (¬ (x2 = (5 : Int32)) → ((x2 = (6 : Int32) → ((ok_X4_allArrivals ((1 + 1) + 1 + 2 * (x1).toNatClampNeg) M) ∧ True)) ∧ (¬ (x2 = (6 : Int32)) → ((x2 = (7 : Int32) → ((ok_X2_hoursForQueueOf 1 x1 M) ∧ True)) ∧ (¬ (x2 = (7 : Int32)) → True)))))))))))))))))))
set_option maxRecDepth 100000 in
set_option maxHeartbeats 4000000 in
theorem bw_X5_station {E : ps_E} {X : ps_X (Int32 × ps_M)} (C : ps_C (ps_Yc E) X cX5_station RX5 (some .int) 2 46 4) (RT : ps_RI (ps_Yc E) X cX5_station .int) (M : ps_M) (x1 : Int32) (x2 : Int32) (hk : ok_X5_station x1 x2 M) : ps_G (ps_Yc E) X (fv_X5_station x1 x2 M, M) 0 [(0, .ref (ps_ad E 0)), (1, .int x1), (2, .int x2)] [] M := by
  unfold fv_X5_station
  unfold ok_X5_station at hk
  refine gw_aload_n C 1 dX5_station_0 0 rfl rfl ?_
  refine gf_X5_12 C 4 dX5_station_1 rfl ?_
  refine gw_iload_n C 5 dX5_station_4 1 rfl rfl ?_
  refine gw_cVp C 8 dX5_station_5 rfl yv_X2_hasStation lk_X5_62 [.int x1] [] rfl (ct_X2_hasStation (E := E) (l := ps_l X) 1 x1 kd_1 M hk.1) (rc_D kd_1) rfl (Nat.le_of_ble_eq_true rfl) (Nat.le_of_ble_eq_true rfl) (Nat.le_of_ble_eq_true rfl) ?_
  refine gw_if_neP C 13 11 dX5_station_8 (by decide) rfl (fun c8 => ?_) (fun c8 => ?_)
  · refine gw_iconst C 12 dX5_station_11 (v := (-1)) (by decide) rfl ?_
    exact RT _ _ _ _ dX5_station_12 rfl
  · refine gw_aload_n C 14 dX5_station_13 0 rfl rfl ?_
    refine gf_X5_12 C 17 dX5_station_14 rfl ?_
    refine gf_X5_69 C 20 dX5_station_17 rfl kd_1 ?_
    refine gw_iload_n C 21 dX5_station_20 1 rfl rfl ?_
    refine gw_alS C 22 dX5_station_21 rfl (kd_d1 kd_1) (hk.2.2 c8).1 ?_
    refine gw_astore_n C 23 dX5_station_22 rfl [(0, .ref (ps_ad E 0)), (1, .int x1), (2, .int x2), (3, .ref (ps_ad E ((1 + 1) + 1 + 2 * (x1).toNatClampNeg)))] [1, 2, 3, 0] (by decide) rfl ?_
    refine gw_iload_n C 24 dX5_station_23 2 rfl rfl ?_
    refine gw_caseP C (0 : Int32) (fun c24_0 => ?_) (fun c24_0 => ?_)
    · refine gw_tin C 72 (0) (48) c24_0 (by decide) dX5_station_24 (by decide) (by decide) (by decide +kernel) (by decide) ?_
      refine gw_aload_n C 73 dX5_station_72 3 rfl rfl ?_
      refine gf_X5_135 C 76 dX5_station_73 rfl (kd_S (kd_d1 kd_1) (hk.2.2 c8).1) ?_
      exact RT _ _ _ _ dX5_station_76 rfl
    refine gw_caseP C (1 : Int32) (fun c24_1 => ?_) (fun c24_1 => ?_)
    · refine gw_tin C 77 (1) (53) c24_1 (by decide) dX5_station_24 (by decide) (by decide) (by decide +kernel) (by decide) ?_
      refine gw_aload_n C 78 dX5_station_77 3 rfl rfl ?_
      refine gf_X5_183 C 81 dX5_station_78 rfl (kd_S (kd_d1 kd_1) (hk.2.2 c8).1) ?_
      exact RT _ _ _ _ dX5_station_81 rfl
    refine gw_caseP C (2 : Int32) (fun c24_2 => ?_) (fun c24_2 => ?_)
    · refine gw_tin C 82 (2) (58) c24_2 (by decide) dX5_station_24 (by decide) (by decide) (by decide +kernel) (by decide) ?_
      refine gw_aload_n C 83 dX5_station_82 3 rfl rfl ?_
      refine gf_X5_186 C 86 dX5_station_83 rfl (kd_S (kd_d1 kd_1) (hk.2.2 c8).1) ?_
      exact RT _ _ _ _ dX5_station_86 rfl
    refine gw_caseP C (3 : Int32) (fun c24_3 => ?_) (fun c24_3 => ?_)
    · refine gw_tin C 87 (3) (63) c24_3 (by decide) dX5_station_24 (by decide) (by decide) (by decide +kernel) (by decide) ?_
      refine gw_aload_n C 88 dX5_station_87 3 rfl rfl ?_
      refine gf_X5_189 C 91 dX5_station_88 rfl (kd_S (kd_d1 kd_1) (hk.2.2 c8).1) ?_
      exact RT _ _ _ _ dX5_station_91 rfl
    refine gw_caseP C (4 : Int32) (fun c24_4 => ?_) (fun c24_4 => ?_)
    · refine gw_tin C 92 (4) (68) c24_4 (by decide) dX5_station_24 (by decide) (by decide) (by decide +kernel) (by decide) ?_
      refine gw_aload_n C 93 dX5_station_92 0 rfl rfl ?_
      refine gf_X5_12 C 96 dX5_station_93 rfl ?_
      refine gw_iload_n C 97 dX5_station_96 1 rfl rfl ?_
      refine gw_cVp C 100 dX5_station_97 rfl yv_X2_clerksAt lk_X5_94 [.int x1] [] rfl (ct_X2_clerksAt (E := E) (l := ps_l X) 1 x1 kd_1 M ((((((hk.2.2 c8).2.2 c24_0).2 c24_1).2 c24_2).2 c24_3).1 c24_4).1) (rc_D kd_1) rfl (Nat.le_of_ble_eq_true rfl) (Nat.le_of_ble_eq_true rfl) (Nat.le_of_ble_eq_true rfl) ?_
      exact RT _ _ _ _ dX5_station_100 rfl
    refine gw_caseP C (5 : Int32) (fun c24_5 => ?_) (fun c24_5 => ?_)
    · refine gw_tin C 101 (5) (77) c24_5 (by decide) dX5_station_24 (by decide) (by decide) (by decide +kernel) (by decide) ?_
      refine gw_aload_n C 102 dX5_station_101 0 rfl rfl ?_
      refine gf_X5_12 C 105 dX5_station_102 rfl ?_
      refine gw_iload_n C 106 dX5_station_105 1 rfl rfl ?_
      refine gw_cVp C 109 dX5_station_106 rfl yv_X2_servedAnHourAt lk_X5_192 [.int x1] [] rfl (ct_X2_servedAnHourAt (E := E) (l := ps_l X) 1 x1 kd_1 M (((((((hk.2.2 c8).2.2 c24_0).2 c24_1).2 c24_2).2 c24_3).2 c24_4).1 c24_5).1) (rc_D kd_1) rfl (Nat.le_of_ble_eq_true rfl) (Nat.le_of_ble_eq_true rfl) (Nat.le_of_ble_eq_true rfl) ?_
      exact RT _ _ _ _ dX5_station_109 rfl
    refine gw_caseP C (6 : Int32) (fun c24_6 => ?_) (fun c24_6 => ?_)
    · refine gw_tin C 110 (6) (86) c24_6 (by decide) dX5_station_24 (by decide) (by decide) (by decide +kernel) (by decide) ?_
      refine gw_aload_n C 111 dX5_station_110 3 rfl rfl ?_
      refine gw_cVp C 114 dX5_station_111 rfl yv_X4_allArrivals lk_X5_195 [] [] rfl (ct_X4_allArrivals (E := E) (l := ps_l X) ((1 + 1) + 1 + 2 * (x1).toNatClampNeg) (kd_S (kd_d1 kd_1) (hk.2.2 c8).1) M ((((((((hk.2.2 c8).2.2 c24_0).2 c24_1).2 c24_2).2 c24_3).2 c24_4).2 c24_5).1 c24_6).1) (rc_S (kd_S (kd_d1 kd_1) (hk.2.2 c8).1)) rfl (Nat.le_of_ble_eq_true rfl) (Nat.le_of_ble_eq_true rfl) (Nat.le_of_ble_eq_true rfl) ?_
      exact RT _ _ _ _ dX5_station_114 rfl
    refine gw_caseP C (7 : Int32) (fun c24_7 => ?_) (fun c24_7 => ?_)
    · refine gw_tin C 115 (7) (91) c24_7 (by decide) dX5_station_24 (by decide) (by decide) (by decide +kernel) (by decide) ?_
      refine gw_aload_n C 116 dX5_station_115 0 rfl rfl ?_
      refine gf_X5_12 C 119 dX5_station_116 rfl ?_
      refine gw_iload_n C 120 dX5_station_119 1 rfl rfl ?_
      refine gw_cVp C 123 dX5_station_120 rfl yv_X2_hoursForQueueOf lk_X5_198 [.int x1] [] rfl (ct_X2_hoursForQueueOf (E := E) (l := ps_l X) 1 x1 kd_1 M (((((((((hk.2.2 c8).2.2 c24_0).2 c24_1).2 c24_2).2 c24_3).2 c24_4).2 c24_5).2 c24_6).1 c24_7).1) (rc_D kd_1) rfl (Nat.le_of_ble_eq_true rfl) (Nat.le_of_ble_eq_true rfl) (Nat.le_of_ble_eq_true rfl) ?_
      exact RT _ _ _ _ dX5_station_123 rfl
    refine gw_tout C 124 dX5_station_24 (by have e0 := ps_ne_int c24_0 (z := 0) (by decide); have e1 := ps_ne_int c24_1 (z := 1) (by decide); have e2 := ps_ne_int c24_2 (z := 2) (by decide); have e3 := ps_ne_int c24_3 (z := 3) (by decide); have e4 := ps_ne_int c24_4 (z := 4) (by decide); have e5 := ps_ne_int c24_5 (z := 5) (by decide); have e6 := ps_ne_int c24_6 (z := 6) (by decide); have e7 := ps_ne_int c24_7 (z := 7) (by decide); omega) (by decide) ?_
    refine gw_bipush C 126 dX5_station_124 (v := (-2)) (by decide) rfl ?_
    exact RT _ _ _ _ dX5_station_126 rfl
theorem ct_X5_station {E : ps_E} {l : Launch} (x1 : Int32) (x2 : Int32)  (M : ps_M) (hk : ok_X5_station x1 x2 M) : ps_CI (ps_Yc E) l yX5_station cX5_station 4 (some .int) 2 46 [.ref (ps_ad E 0), .int x1, .int x2] M (fv_X5_station x1 x2 M, M) := ps_metI RX5 (by decide) rfl (Nat.le_of_ble_eq_true rfl) rfl (fun X _ C RT => bw_X5_station C RT M x1 x2 hk)
def fv_X5_papers (x1 : Int32) (x2 : Int32) (M : ps_M) : Int32 := if (fv_X2_hasStation 1 x1 M) = 0 then ((-1 : Int32)) else (if x2 = (0 : Int32) then ((M ((1 + 1) + 1 + 2 * (x1).toNatClampNeg) 5)) else (if x2 = (1 : Int32) then ((M ((1 + 1) + 1 + 2 * (x1).toNatClampNeg) 6)) else (if x2 = (2 : Int32) then ((M ((1 + 1) + 1 + 2 * (x1).toNatClampNeg) 7)) else (if x2 = (3 : Int32) then ((M ((1 + 1) + 1 + 2 * (x1).toNatClampNeg) 8)) else (if x2 = (4 : Int32) then ((M ((1 + 1) + 1 + 2 * (x1).toNatClampNeg) 9)) else (if x2 = (5 : Int32) then ((M ((1 + 1) + 1 + 2 * (x1).toNatClampNeg) 10)) else (if x2 = (6 : Int32) then (if (fv_X4_isCounted ((1 + 1) + 1 + 2 * (x1).toNatClampNeg) M) = 0 then ((-5 : Int32)) else ((M ((1 + 1) + 1 + 2 * (x1).toNatClampNeg) 11))) else (if x2 = (7 : Int32) then (if (fv_X4_isCounted ((1 + 1) + 1 + 2 * (x1).toNatClampNeg) M) = 0 then ((-5 : Int32)) else ((((M ((1 + 1) + 1 + 2 * (x1).toNatClampNeg) 11) - (M ((1 + 1) + 1 + 2 * (x1).toNatClampNeg) 10)) + (100000 : Int32)))) else (if x2 = (8 : Int32) then ((M ((1 + 1) + 1 + 2 * (x1).toNatClampNeg) 12)) else ((-2 : Int32)))))))))))
def ok_X5_papers (x1 : Int32) (x2 : Int32) (M : ps_M) : Prop := (ok_X2_hasStation 1 x1 M) ∧ (((fv_X2_hasStation 1 x1 M) = 0 → True) ∧ (¬ ((fv_X2_hasStation 1 x1 M) = 0) → ((vp_in x1 6) ∧ ((x2 = (0 : Int32) → True) ∧ (¬ (x2 = (0 : Int32)) → ((x2 = (1 : Int32) → True) ∧ (¬ (x2 = (1 : Int32)) → ((x2 = (2 : Int32) → True) ∧ (¬ (x2 = (2 : Int32)) → ((x2 = (3 : Int32) → True) ∧ (¬ (x2 = (3 : Int32)) → ((x2 = (4 : Int32) → True) ∧ (¬ (x2 = (4 : Int32)) → ((x2 = (5 : Int32) → True) ∧ (¬ (x2 = (5 : Int32)) → ((x2 = (6 : Int32) → ((ok_X4_isCounted ((1 + 1) + 1 + 2 * (x1).toNatClampNeg) M) ∧ True)) ∧ (¬ (x2 = (6 : Int32)) → ((x2 = (7 : Int32) → ((ok_X4_isCounted ((1 + 1) + 1 + 2 * (x1).toNatClampNeg) M) ∧ True)) ∧ (¬ (x2 = (7 : Int32)) → ((x2 = (8 : Int32) → True) ∧ (¬ (x2 = (8 : Int32)) → True)))))))))))))))))))))
set_option maxRecDepth 100000 in
set_option maxHeartbeats 4000000 in
theorem bw_X5_papers {E : ps_E} {X : ps_X (Int32 × ps_M)} (C : ps_C (ps_Yc E) X cX5_papers RX5 (some .int) 1 21 4) (RT : ps_RI (ps_Yc E) X cX5_papers .int) (M : ps_M) (x1 : Int32) (x2 : Int32) (hk : ok_X5_papers x1 x2 M) : ps_G (ps_Yc E) X (fv_X5_papers x1 x2 M, M) 0 [(0, .ref (ps_ad E 0)), (1, .int x1), (2, .int x2)] [] M := by
  unfold fv_X5_papers
  unfold ok_X5_papers at hk
  refine gw_aload_n C 1 dX5_papers_0 0 rfl rfl ?_
  refine gf_X5_12 C 4 dX5_papers_1 rfl ?_
  refine gw_iload_n C 5 dX5_papers_4 1 rfl rfl ?_
  refine gw_cVp C 8 dX5_papers_5 rfl yv_X2_hasStation lk_X5_62 [.int x1] [] rfl (ct_X2_hasStation (E := E) (l := ps_l X) 1 x1 kd_1 M hk.1) (rc_D kd_1) rfl (Nat.le_of_ble_eq_true rfl) (Nat.le_of_ble_eq_true rfl) (Nat.le_of_ble_eq_true rfl) ?_
  refine gw_if_neP C 13 11 dX5_papers_8 (by decide) rfl (fun c8 => ?_) (fun c8 => ?_)
  · refine gw_iconst C 12 dX5_papers_11 (v := (-1)) (by decide) rfl ?_
    exact RT _ _ _ _ dX5_papers_12 rfl
  · refine gw_aload_n C 14 dX5_papers_13 0 rfl rfl ?_
    refine gf_X5_12 C 17 dX5_papers_14 rfl ?_
    refine gf_X5_69 C 20 dX5_papers_17 rfl kd_1 ?_
    refine gw_iload_n C 21 dX5_papers_20 1 rfl rfl ?_
    refine gw_alS C 22 dX5_papers_21 rfl (kd_d1 kd_1) (hk.2.2 c8).1 ?_
    refine gw_astore_n C 23 dX5_papers_22 rfl [(0, .ref (ps_ad E 0)), (1, .int x1), (2, .int x2), (3, .ref (ps_ad E ((1 + 1) + 1 + 2 * (x1).toNatClampNeg)))] [1, 2, 3, 0] (by decide) rfl ?_
    refine gw_iload_n C 24 dX5_papers_23 2 rfl rfl ?_
    refine gw_caseP C (0 : Int32) (fun c24_0 => ?_) (fun c24_0 => ?_)
    · refine gw_tin C 76 (0) (52) c24_0 (by decide) dX5_papers_24 (by decide) (by decide) (by decide +kernel) (by decide) ?_
      refine gw_aload_n C 77 dX5_papers_76 3 rfl rfl ?_
      refine gf_X5_116 C 80 dX5_papers_77 rfl (kd_S (kd_d1 kd_1) (hk.2.2 c8).1) ?_
      exact RT _ _ _ _ dX5_papers_80 rfl
    refine gw_caseP C (1 : Int32) (fun c24_1 => ?_) (fun c24_1 => ?_)
    · refine gw_tin C 81 (1) (57) c24_1 (by decide) dX5_papers_24 (by decide) (by decide) (by decide +kernel) (by decide) ?_
      refine gw_aload_n C 82 dX5_papers_81 3 rfl rfl ?_
      refine gf_X5_125 C 85 dX5_papers_82 rfl (kd_S (kd_d1 kd_1) (hk.2.2 c8).1) ?_
      exact RT _ _ _ _ dX5_papers_85 rfl
    refine gw_caseP C (2 : Int32) (fun c24_2 => ?_) (fun c24_2 => ?_)
    · refine gw_tin C 86 (2) (62) c24_2 (by decide) dX5_papers_24 (by decide) (by decide) (by decide +kernel) (by decide) ?_
      refine gw_aload_n C 87 dX5_papers_86 3 rfl rfl ?_
      refine gf_X5_122 C 90 dX5_papers_87 rfl (kd_S (kd_d1 kd_1) (hk.2.2 c8).1) ?_
      exact RT _ _ _ _ dX5_papers_90 rfl
    refine gw_caseP C (3 : Int32) (fun c24_3 => ?_) (fun c24_3 => ?_)
    · refine gw_tin C 91 (3) (67) c24_3 (by decide) dX5_papers_24 (by decide) (by decide) (by decide +kernel) (by decide) ?_
      refine gw_aload_n C 92 dX5_papers_91 3 rfl rfl ?_
      refine gf_X5_128 C 95 dX5_papers_92 rfl (kd_S (kd_d1 kd_1) (hk.2.2 c8).1) ?_
      exact RT _ _ _ _ dX5_papers_95 rfl
    refine gw_caseP C (4 : Int32) (fun c24_4 => ?_) (fun c24_4 => ?_)
    · refine gw_tin C 96 (4) (72) c24_4 (by decide) dX5_papers_24 (by decide) (by decide) (by decide +kernel) (by decide) ?_
      refine gw_aload_n C 97 dX5_papers_96 3 rfl rfl ?_
      refine gf_X5_131 C 100 dX5_papers_97 rfl (kd_S (kd_d1 kd_1) (hk.2.2 c8).1) ?_
      exact RT _ _ _ _ dX5_papers_100 rfl
    refine gw_caseP C (5 : Int32) (fun c24_5 => ?_) (fun c24_5 => ?_)
    · refine gw_tin C 101 (5) (77) c24_5 (by decide) dX5_papers_24 (by decide) (by decide) (by decide +kernel) (by decide) ?_
      refine gw_aload_n C 102 dX5_papers_101 3 rfl rfl ?_
      refine gf_X5_119 C 105 dX5_papers_102 rfl (kd_S (kd_d1 kd_1) (hk.2.2 c8).1) ?_
      exact RT _ _ _ _ dX5_papers_105 rfl
    refine gw_caseP C (6 : Int32) (fun c24_6 => ?_) (fun c24_6 => ?_)
    · refine gw_tin C 106 (6) (82) c24_6 (by decide) dX5_papers_24 (by decide) (by decide) (by decide +kernel) (by decide) ?_
      refine gw_aload_n C 107 dX5_papers_106 3 rfl rfl ?_
      refine gw_cVp C 110 dX5_papers_107 rfl yv_X4_isCounted lk_X5_201 [] [] rfl (ct_X4_isCounted (E := E) (l := ps_l X) ((1 + 1) + 1 + 2 * (x1).toNatClampNeg) (kd_S (kd_d1 kd_1) (hk.2.2 c8).1) M ((((((((hk.2.2 c8).2.2 c24_0).2 c24_1).2 c24_2).2 c24_3).2 c24_4).2 c24_5).1 c24_6).1) (rc_S (kd_S (kd_d1 kd_1) (hk.2.2 c8).1)) rfl (Nat.le_of_ble_eq_true rfl) (Nat.le_of_ble_eq_true rfl) (Nat.le_of_ble_eq_true rfl) ?_
      refine gw_if_eqP C 120 113 dX5_papers_110 (by decide) rfl (fun c110 => ?_) (fun c110 => ?_)
      · refine gw_bipush C 122 dX5_papers_120 (v := (-5)) (by decide) rfl ?_
        exact RT _ _ _ _ dX5_papers_122 rfl
      · refine gw_aload_n C 114 dX5_papers_113 3 rfl rfl ?_
        refine gf_X5_141 C 117 dX5_papers_114 rfl (kd_S (kd_d1 kd_1) (hk.2.2 c8).1) ?_
        refine gw_goto C 122 dX5_papers_117 (by decide) ?_
        exact RT _ _ _ _ dX5_papers_122 rfl
    refine gw_caseP C (7 : Int32) (fun c24_7 => ?_) (fun c24_7 => ?_)
    · refine gw_tin C 123 (7) (99) c24_7 (by decide) dX5_papers_24 (by decide) (by decide) (by decide +kernel) (by decide) ?_
      refine gw_aload_n C 124 dX5_papers_123 3 rfl rfl ?_
      refine gw_cVp C 127 dX5_papers_124 rfl yv_X4_isCounted lk_X5_201 [] [] rfl (ct_X4_isCounted (E := E) (l := ps_l X) ((1 + 1) + 1 + 2 * (x1).toNatClampNeg) (kd_S (kd_d1 kd_1) (hk.2.2 c8).1) M (((((((((hk.2.2 c8).2.2 c24_0).2 c24_1).2 c24_2).2 c24_3).2 c24_4).2 c24_5).2 c24_6).1 c24_7).1) (rc_S (kd_S (kd_d1 kd_1) (hk.2.2 c8).1)) rfl (Nat.le_of_ble_eq_true rfl) (Nat.le_of_ble_eq_true rfl) (Nat.le_of_ble_eq_true rfl) ?_
      refine gw_if_eqP C 145 130 dX5_papers_127 (by decide) rfl (fun c127 => ?_) (fun c127 => ?_)
      · refine gw_bipush C 147 dX5_papers_145 (v := (-5)) (by decide) rfl ?_
        exact RT _ _ _ _ dX5_papers_147 rfl
      · refine gw_aload_n C 131 dX5_papers_130 3 rfl rfl ?_
        refine gf_X5_141 C 134 dX5_papers_131 rfl (kd_S (kd_d1 kd_1) (hk.2.2 c8).1) ?_
        refine gw_aload_n C 135 dX5_papers_134 3 rfl rfl ?_
        refine gf_X5_119 C 138 dX5_papers_135 rfl (kd_S (kd_d1 kd_1) (hk.2.2 c8).1) ?_
        refine gw_isub C 139 dX5_papers_138 rfl ?_
        refine gw_ldc C 141 dX5_papers_139 lk_X5_204 rfl ?_
        refine gw_iadd C 142 dX5_papers_141 rfl ?_
        refine gw_goto C 147 dX5_papers_142 (by decide) ?_
        exact RT _ _ _ _ dX5_papers_147 rfl
    refine gw_caseP C (8 : Int32) (fun c24_8 => ?_) (fun c24_8 => ?_)
    · refine gw_tin C 148 (8) (124) c24_8 (by decide) dX5_papers_24 (by decide) (by decide) (by decide +kernel) (by decide) ?_
      refine gw_aload_n C 149 dX5_papers_148 3 rfl rfl ?_
      refine gf_X5_138 C 152 dX5_papers_149 rfl (kd_S (kd_d1 kd_1) (hk.2.2 c8).1) ?_
      exact RT _ _ _ _ dX5_papers_152 rfl
    refine gw_tout C 153 dX5_papers_24 (by have e0 := ps_ne_int c24_0 (z := 0) (by decide); have e1 := ps_ne_int c24_1 (z := 1) (by decide); have e2 := ps_ne_int c24_2 (z := 2) (by decide); have e3 := ps_ne_int c24_3 (z := 3) (by decide); have e4 := ps_ne_int c24_4 (z := 4) (by decide); have e5 := ps_ne_int c24_5 (z := 5) (by decide); have e6 := ps_ne_int c24_6 (z := 6) (by decide); have e7 := ps_ne_int c24_7 (z := 7) (by decide); have e8 := ps_ne_int c24_8 (z := 8) (by decide); omega) (by decide) ?_
    refine gw_bipush C 155 dX5_papers_153 (v := (-2)) (by decide) rfl ?_
    exact RT _ _ _ _ dX5_papers_155 rfl
theorem ct_X5_papers {E : ps_E} {l : Launch} (x1 : Int32) (x2 : Int32)  (M : ps_M) (hk : ok_X5_papers x1 x2 M) : ps_CI (ps_Yc E) l yX5_papers cX5_papers 4 (some .int) 1 21 [.ref (ps_ad E 0), .int x1, .int x2] M (fv_X5_papers x1 x2 M, M) := ps_metI RX5 (by decide) rfl (Nat.le_of_ble_eq_true rfl) rfl (fun X _ C RT => bw_X5_papers C RT M x1 x2 hk)
def fv_X5_clerk (x1 : Int32) (x2 : Int32) (M : ps_M) : Int32 := if (fv_X2_hasClerk 1 x1 M) = 0 then ((-1 : Int32)) else (if x2 = (0 : Int32) then ((M ((1 + 14) + 1 + (x1).toNatClampNeg) 0)) else (if x2 = (1 : Int32) then ((M ((1 + 14) + 1 + (x1).toNatClampNeg) 1)) else (if x2 = (2 : Int32) then ((M ((1 + 14) + 1 + (x1).toNatClampNeg) 2)) else (if x2 = (3 : Int32) then ((M ((1 + 14) + 1 + (x1).toNatClampNeg) 3)) else (if x2 = (4 : Int32) then ((M ((1 + 14) + 1 + (x1).toNatClampNeg) 4)) else (if x2 = (5 : Int32) then (if (fv_X1_rests ((1 + 14) + 1 + (x1).toNatClampNeg) M) = 0 then ((0 : Int32)) else ((1 : Int32))) else (if x2 = (6 : Int32) then (if (fv_X1_isFree ((1 + 14) + 1 + (x1).toNatClampNeg) M) = 0 then ((-5 : Int32)) else ((fv_X2_placeAmongFree 1 x1 M))) else ((-2 : Int32)))))))))
def ok_X5_clerk (x1 : Int32) (x2 : Int32) (M : ps_M) : Prop := (ok_X2_hasClerk 1 x1 M) ∧ (((fv_X2_hasClerk 1 x1 M) = 0 → True) ∧ (¬ ((fv_X2_hasClerk 1 x1 M) = 0) → ((vp_in x1 12) ∧ ((x2 = (0 : Int32) → True) ∧ (¬ (x2 = (0 : Int32)) → ((x2 = (1 : Int32) → True) ∧ (¬ (x2 = (1 : Int32)) → ((x2 = (2 : Int32) → True) ∧ (¬ (x2 = (2 : Int32)) → ((x2 = (3 : Int32) → True) ∧ (¬ (x2 = (3 : Int32)) → ((x2 = (4 : Int32) → True) ∧ (¬ (x2 = (4 : Int32)) → ((x2 = (5 : Int32) → ((ok_X1_rests ((1 + 14) + 1 + (x1).toNatClampNeg) M) ∧ True)) ∧ (¬ (x2 = (5 : Int32)) → ((x2 = (6 : Int32) → ((ok_X1_isFree ((1 + 14) + 1 + (x1).toNatClampNeg) M) ∧ (((fv_X1_isFree ((1 + 14) + 1 + (x1).toNatClampNeg) M) = 0 → True) ∧ (¬ ((fv_X1_isFree ((1 + 14) + 1 + (x1).toNatClampNeg) M) = 0) → ((ok_X2_placeAmongFree 1 x1 M) ∧ True))))) ∧ (¬ (x2 = (6 : Int32)) → True)))))))))))))))))
set_option maxRecDepth 100000 in
set_option maxHeartbeats 4000000 in
theorem bw_X5_clerk {E : ps_E} {X : ps_X (Int32 × ps_M)} (C : ps_C (ps_Yc E) X cX5_clerk RX5 (some .int) 3 63 4) (RT : ps_RI (ps_Yc E) X cX5_clerk .int) (M : ps_M) (x1 : Int32) (x2 : Int32) (hk : ok_X5_clerk x1 x2 M) : ps_G (ps_Yc E) X (fv_X5_clerk x1 x2 M, M) 0 [(0, .ref (ps_ad E 0)), (1, .int x1), (2, .int x2)] [] M := by
  unfold fv_X5_clerk
  unfold ok_X5_clerk at hk
  refine gw_aload_n C 1 dX5_clerk_0 0 rfl rfl ?_
  refine gf_X5_12 C 4 dX5_clerk_1 rfl ?_
  refine gw_iload_n C 5 dX5_clerk_4 1 rfl rfl ?_
  refine gw_cVp C 8 dX5_clerk_5 rfl yv_X2_hasClerk lk_X5_77 [.int x1] [] rfl (ct_X2_hasClerk (E := E) (l := ps_l X) 1 x1 kd_1 M hk.1) (rc_D kd_1) rfl (Nat.le_of_ble_eq_true rfl) (Nat.le_of_ble_eq_true rfl) (Nat.le_of_ble_eq_true rfl) ?_
  refine gw_if_neP C 13 11 dX5_clerk_8 (by decide) rfl (fun c8 => ?_) (fun c8 => ?_)
  · refine gw_iconst C 12 dX5_clerk_11 (v := (-1)) (by decide) rfl ?_
    exact RT _ _ _ _ dX5_clerk_12 rfl
  · refine gw_aload_n C 14 dX5_clerk_13 0 rfl rfl ?_
    refine gf_X5_12 C 17 dX5_clerk_14 rfl ?_
    refine gf_X5_80 C 20 dX5_clerk_17 rfl kd_1 ?_
    refine gw_iload_n C 21 dX5_clerk_20 1 rfl rfl ?_
    refine gw_alK C 22 dX5_clerk_21 rfl (kd_d14 kd_1) (hk.2.2 c8).1 ?_
    refine gw_astore_n C 23 dX5_clerk_22 rfl [(0, .ref (ps_ad E 0)), (1, .int x1), (2, .int x2), (3, .ref (ps_ad E ((1 + 14) + 1 + (x1).toNatClampNeg)))] [1, 2, 3, 0] (by decide) rfl ?_
    refine gw_iload_n C 24 dX5_clerk_23 2 rfl rfl ?_
    refine gw_caseP C (0 : Int32) (fun c24_0 => ?_) (fun c24_0 => ?_)
    · refine gw_tin C 68 (0) (44) c24_0 (by decide) dX5_clerk_24 (by decide) (by decide) (by decide +kernel) (by decide) ?_
      refine gw_aload_n C 69 dX5_clerk_68 3 rfl rfl ?_
      refine gf_X5_205 C 72 dX5_clerk_69 rfl (kd_K (kd_d14 kd_1) (hk.2.2 c8).1) ?_
      exact RT _ _ _ _ dX5_clerk_72 rfl
    refine gw_caseP C (1 : Int32) (fun c24_1 => ?_) (fun c24_1 => ?_)
    · refine gw_tin C 73 (1) (49) c24_1 (by decide) dX5_clerk_24 (by decide) (by decide) (by decide +kernel) (by decide) ?_
      refine gw_aload_n C 74 dX5_clerk_73 3 rfl rfl ?_
      refine gf_X5_208 C 77 dX5_clerk_74 rfl (kd_K (kd_d14 kd_1) (hk.2.2 c8).1) ?_
      exact RT _ _ _ _ dX5_clerk_77 rfl
    refine gw_caseP C (2 : Int32) (fun c24_2 => ?_) (fun c24_2 => ?_)
    · refine gw_tin C 78 (2) (54) c24_2 (by decide) dX5_clerk_24 (by decide) (by decide) (by decide +kernel) (by decide) ?_
      refine gw_aload_n C 79 dX5_clerk_78 3 rfl rfl ?_
      refine gf_X5_211 C 82 dX5_clerk_79 rfl (kd_K (kd_d14 kd_1) (hk.2.2 c8).1) ?_
      exact RT _ _ _ _ dX5_clerk_82 rfl
    refine gw_caseP C (3 : Int32) (fun c24_3 => ?_) (fun c24_3 => ?_)
    · refine gw_tin C 83 (3) (59) c24_3 (by decide) dX5_clerk_24 (by decide) (by decide) (by decide +kernel) (by decide) ?_
      refine gw_aload_n C 84 dX5_clerk_83 3 rfl rfl ?_
      refine gf_X5_101 C 87 dX5_clerk_84 rfl (kd_K (kd_d14 kd_1) (hk.2.2 c8).1) ?_
      exact RT _ _ _ _ dX5_clerk_87 rfl
    refine gw_caseP C (4 : Int32) (fun c24_4 => ?_) (fun c24_4 => ?_)
    · refine gw_tin C 88 (4) (64) c24_4 (by decide) dX5_clerk_24 (by decide) (by decide) (by decide +kernel) (by decide) ?_
      refine gw_aload_n C 89 dX5_clerk_88 3 rfl rfl ?_
      refine gf_X5_214 C 92 dX5_clerk_89 rfl (kd_K (kd_d14 kd_1) (hk.2.2 c8).1) ?_
      exact RT _ _ _ _ dX5_clerk_92 rfl
    refine gw_caseP C (5 : Int32) (fun c24_5 => ?_) (fun c24_5 => ?_)
    · refine gw_tin C 93 (5) (69) c24_5 (by decide) dX5_clerk_24 (by decide) (by decide) (by decide +kernel) (by decide) ?_
      refine gw_aload_n C 94 dX5_clerk_93 3 rfl rfl ?_
      refine gw_cVp C 97 dX5_clerk_94 rfl yv_X1_rests lk_X5_217 [] [] rfl (ct_X1_rests (E := E) (l := ps_l X) ((1 + 14) + 1 + (x1).toNatClampNeg) (kd_K (kd_d14 kd_1) (hk.2.2 c8).1) M (((((((hk.2.2 c8).2.2 c24_0).2 c24_1).2 c24_2).2 c24_3).2 c24_4).1 c24_5).1) (rc_K (kd_K (kd_d14 kd_1) (hk.2.2 c8).1)) rfl (Nat.le_of_ble_eq_true rfl) (Nat.le_of_ble_eq_true rfl) (Nat.le_of_ble_eq_true rfl) ?_
      refine gw_if_eqP C 104 100 dX5_clerk_97 (by decide) rfl (fun c97 => ?_) (fun c97 => ?_)
      · refine gw_iconst C 105 dX5_clerk_104 (v := 0) (by decide) rfl ?_
        exact RT _ _ _ _ dX5_clerk_105 rfl
      · refine gw_iconst C 101 dX5_clerk_100 (v := 1) (by decide) rfl ?_
        refine gw_goto C 105 dX5_clerk_101 (by decide) ?_
        exact RT _ _ _ _ dX5_clerk_105 rfl
    refine gw_caseP C (6 : Int32) (fun c24_6 => ?_) (fun c24_6 => ?_)
    · refine gw_tin C 106 (6) (82) c24_6 (by decide) dX5_clerk_24 (by decide) (by decide) (by decide +kernel) (by decide) ?_
      refine gw_aload_n C 107 dX5_clerk_106 3 rfl rfl ?_
      refine gw_cVp C 110 dX5_clerk_107 rfl yv_X1_isFree lk_X5_84 [] [] rfl (ct_X1_isFree (E := E) (l := ps_l X) ((1 + 14) + 1 + (x1).toNatClampNeg) (kd_K (kd_d14 kd_1) (hk.2.2 c8).1) M ((((((((hk.2.2 c8).2.2 c24_0).2 c24_1).2 c24_2).2 c24_3).2 c24_4).2 c24_5).1 c24_6).1) (rc_K (kd_K (kd_d14 kd_1) (hk.2.2 c8).1)) rfl (Nat.le_of_ble_eq_true rfl) (Nat.le_of_ble_eq_true rfl) (Nat.le_of_ble_eq_true rfl) ?_
      refine gw_if_eqP C 124 113 dX5_clerk_110 (by decide) rfl (fun c110 => ?_) (fun c110 => ?_)
      · refine gw_bipush C 126 dX5_clerk_124 (v := (-5)) (by decide) rfl ?_
        exact RT _ _ _ _ dX5_clerk_126 rfl
      · refine gw_aload_n C 114 dX5_clerk_113 0 rfl rfl ?_
        refine gf_X5_12 C 117 dX5_clerk_114 rfl ?_
        refine gw_iload_n C 118 dX5_clerk_117 1 rfl rfl ?_
        refine gw_cVp C 121 dX5_clerk_118 rfl yv_X2_placeAmongFree lk_X5_220 [.int x1] [] rfl (ct_X2_placeAmongFree (E := E) (l := ps_l X) 1 x1 kd_1 M (((((((((hk.2.2 c8).2.2 c24_0).2 c24_1).2 c24_2).2 c24_3).2 c24_4).2 c24_5).1 c24_6).2.2 c110).1) (rc_D kd_1) rfl (Nat.le_of_ble_eq_true rfl) (Nat.le_of_ble_eq_true rfl) (Nat.le_of_ble_eq_true rfl) ?_
        refine gw_goto C 126 dX5_clerk_121 (by decide) ?_
        exact RT _ _ _ _ dX5_clerk_126 rfl
    refine gw_tout C 127 dX5_clerk_24 (by have e0 := ps_ne_int c24_0 (z := 0) (by decide); have e1 := ps_ne_int c24_1 (z := 1) (by decide); have e2 := ps_ne_int c24_2 (z := 2) (by decide); have e3 := ps_ne_int c24_3 (z := 3) (by decide); have e4 := ps_ne_int c24_4 (z := 4) (by decide); have e5 := ps_ne_int c24_5 (z := 5) (by decide); have e6 := ps_ne_int c24_6 (z := 6) (by decide); omega) (by decide) ?_
    refine gw_bipush C 129 dX5_clerk_127 (v := (-2)) (by decide) rfl ?_
    exact RT _ _ _ _ dX5_clerk_129 rfl
theorem ct_X5_clerk {E : ps_E} {l : Launch} (x1 : Int32) (x2 : Int32)  (M : ps_M) (hk : ok_X5_clerk x1 x2 M) : ps_CI (ps_Yc E) l yX5_clerk cX5_clerk 4 (some .int) 3 63 [.ref (ps_ad E 0), .int x1, .int x2] M (fv_X5_clerk x1 x2 M, M) := ps_metI RX5 (by decide) rfl (Nat.le_of_ble_eq_true rfl) rfl (fun X _ C RT => bw_X5_clerk C RT M x1 x2 hk)
def fv_X5_arrivals (x1 : Int32) (x2 : Int32) (M : ps_M) : Int32 := if (fv_X2_hasStation 1 x1 M) = 0 then ((-1 : Int32)) else (if (fv_X5_isWithin x2 (0 : Int32) (14 : Int32) M) = 0 then ((-2 : Int32)) else ((M (((1 + 1) + 1 + 2 * (x1).toNatClampNeg) + 1) (x2).toNatClampNeg)))
def ok_X5_arrivals (x1 : Int32) (x2 : Int32) (M : ps_M) : Prop := (ok_X2_hasStation 1 x1 M) ∧ (((fv_X2_hasStation 1 x1 M) = 0 → True) ∧ (¬ ((fv_X2_hasStation 1 x1 M) = 0) → ((ok_X5_isWithin x2 (0 : Int32) (14 : Int32) M) ∧ (((fv_X5_isWithin x2 (0 : Int32) (14 : Int32) M) = 0 → True) ∧ (¬ ((fv_X5_isWithin x2 (0 : Int32) (14 : Int32) M) = 0) → ((vp_in x1 6) ∧ ((vp_in x2 15) ∧ True)))))))
set_option maxRecDepth 100000 in
set_option maxHeartbeats 4000000 in
theorem bw_X5_arrivals {E : ps_E} {X : ps_X (Int32 × ps_M)} (C : ps_C (ps_Yc E) X cX5_arrivals RX5 (some .int) 1 22 3) (RT : ps_RI (ps_Yc E) X cX5_arrivals .int) (M : ps_M) (x1 : Int32) (x2 : Int32) (hk : ok_X5_arrivals x1 x2 M) : ps_G (ps_Yc E) X (fv_X5_arrivals x1 x2 M, M) 0 [(0, .ref (ps_ad E 0)), (1, .int x1), (2, .int x2)] [] M := by
  unfold fv_X5_arrivals
  unfold ok_X5_arrivals at hk
  refine gw_aload_n C 1 dX5_arrivals_0 0 rfl rfl ?_
  refine gf_X5_12 C 4 dX5_arrivals_1 rfl ?_
  refine gw_iload_n C 5 dX5_arrivals_4 1 rfl rfl ?_
  refine gw_cVp C 8 dX5_arrivals_5 rfl yv_X2_hasStation lk_X5_62 [.int x1] [] rfl (ct_X2_hasStation (E := E) (l := ps_l X) 1 x1 kd_1 M hk.1) (rc_D kd_1) rfl (Nat.le_of_ble_eq_true rfl) (Nat.le_of_ble_eq_true rfl) (Nat.le_of_ble_eq_true rfl) ?_
  refine gw_if_neP C 13 11 dX5_arrivals_8 (by decide) rfl (fun c8 => ?_) (fun c8 => ?_)
  · refine gw_iconst C 12 dX5_arrivals_11 (v := (-1)) (by decide) rfl ?_
    exact RT _ _ _ _ dX5_arrivals_12 rfl
  · refine gw_iload_n C 14 dX5_arrivals_13 2 rfl rfl ?_
    refine gw_iconst C 15 dX5_arrivals_14 (v := 0) (by decide) rfl ?_
    refine gw_bipush C 17 dX5_arrivals_15 (v := 14) (by decide) rfl ?_
    refine gw_cSp C 20 dX5_arrivals_17 rfl yv_X5_isWithin lk_X5_51 [.int x2, .int (0 : Int32), .int (14 : Int32)] [] rfl (ct_X5_isWithin (E := E) (l := ps_l X) x2 (0 : Int32) (14 : Int32) M (hk.2.2 c8).1) rfl (Nat.le_of_ble_eq_true rfl) (Nat.le_of_ble_eq_true rfl) (Nat.le_of_ble_eq_true rfl) ?_
    refine gw_if_neP C 26 23 dX5_arrivals_20 (by decide) rfl (fun c20 => ?_) (fun c20 => ?_)
    · refine gw_bipush C 25 dX5_arrivals_23 (v := (-2)) (by decide) rfl ?_
      exact RT _ _ _ _ dX5_arrivals_25 rfl
    · refine gw_aload_n C 27 dX5_arrivals_26 0 rfl rfl ?_
      refine gf_X5_12 C 30 dX5_arrivals_27 rfl ?_
      refine gf_X5_69 C 33 dX5_arrivals_30 rfl kd_1 ?_
      refine gw_iload_n C 34 dX5_arrivals_33 1 rfl rfl ?_
      refine gw_alS C 35 dX5_arrivals_34 rfl (kd_d1 kd_1) ((hk.2.2 c8).2.2 c20).1 ?_
      refine gf_X5_73 C 38 dX5_arrivals_35 rfl (kd_S (kd_d1 kd_1) ((hk.2.2 c8).2.2 c20).1) ?_
      refine gw_iload_n C 39 dX5_arrivals_38 2 rfl rfl ?_
      refine gw_ld_i15 C 40 dX5_arrivals_39 rfl (kd_s1 (kd_S (kd_d1 kd_1) ((hk.2.2 c8).2.2 c20).1)) ((hk.2.2 c8).2.2 c20).2.1 ?_
      exact RT _ _ _ _ dX5_arrivals_40 rfl
theorem ct_X5_arrivals {E : ps_E} {l : Launch} (x1 : Int32) (x2 : Int32)  (M : ps_M) (hk : ok_X5_arrivals x1 x2 M) : ps_CI (ps_Yc E) l yX5_arrivals cX5_arrivals 3 (some .int) 1 22 [.ref (ps_ad E 0), .int x1, .int x2] M (fv_X5_arrivals x1 x2 M, M) := ps_metI RX5 (by decide) rfl (Nat.le_of_ble_eq_true rfl) rfl (fun X _ C RT => bw_X5_arrivals C RT M x1 x2 hk)
def fv_X5_free_9 : Nat → Int32 → Int32 → ps_M → Int32
  | 0, _, _, M => 0
  | n + 1, x1, x2, M => if (M 1 2) ≤ x2 then ((-5 : Int32)) else (if (fv_X1_isFree ((1 + 14) + 1 + (x2).toNatClampNeg) M) = 0 then (fv_X5_free_9 n x1 (x2 + (1 : Int32)) M) else (if (fv_X2_placeAmongFree 1 x2 M) = x1 then x2 else (fv_X5_free_9 n x1 (x2 + (1 : Int32)) M)))
theorem fv_X5_free_9_s (n : Nat) (x1 : Int32) (x2 : Int32) (M : ps_M) : fv_X5_free_9 (n + 1) x1 x2 M = (if (M 1 2) ≤ x2 then ((-5 : Int32)) else (if (fv_X1_isFree ((1 + 14) + 1 + (x2).toNatClampNeg) M) = 0 then (fv_X5_free_9 n x1 (x2 + (1 : Int32)) M) else (if (fv_X2_placeAmongFree 1 x2 M) = x1 then x2 else (fv_X5_free_9 n x1 (x2 + (1 : Int32)) M)))) := rfl
def ok_X5_free_9 : Nat → Int32 → Int32 → ps_M → Prop
  | 0, _, _, _ => False
  | n + 1, x1, x2, M => ((M 1 2) ≤ x2 → True) ∧ (¬ ((M 1 2) ≤ x2) → ((vp_in x2 12) ∧ ((ok_X1_isFree ((1 + 14) + 1 + (x2).toNatClampNeg) M) ∧ (((fv_X1_isFree ((1 + 14) + 1 + (x2).toNatClampNeg) M) = 0 → (ok_X5_free_9 n x1 (x2 + (1 : Int32)) M)) ∧ (¬ ((fv_X1_isFree ((1 + 14) + 1 + (x2).toNatClampNeg) M) = 0) → ((ok_X2_placeAmongFree 1 x2 M) ∧ (((fv_X2_placeAmongFree 1 x2 M) = x1 → True) ∧ (¬ ((fv_X2_placeAmongFree 1 x2 M) = x1) → (ok_X5_free_9 n x1 (x2 + (1 : Int32)) M)))))))))
theorem ok_X5_free_9_s (n : Nat) (x1 : Int32) (x2 : Int32) (M : ps_M) : ok_X5_free_9 (n + 1) x1 x2 M = (((M 1 2) ≤ x2 → True) ∧ (¬ ((M 1 2) ≤ x2) → ((vp_in x2 12) ∧ ((ok_X1_isFree ((1 + 14) + 1 + (x2).toNatClampNeg) M) ∧ (((fv_X1_isFree ((1 + 14) + 1 + (x2).toNatClampNeg) M) = 0 → (ok_X5_free_9 n x1 (x2 + (1 : Int32)) M)) ∧ (¬ ((fv_X1_isFree ((1 + 14) + 1 + (x2).toNatClampNeg) M) = 0) → ((ok_X2_placeAmongFree 1 x2 M) ∧ (((fv_X2_placeAmongFree 1 x2 M) = x1 → True) ∧ (¬ ((fv_X2_placeAmongFree 1 x2 M) = x1) → (ok_X5_free_9 n x1 (x2 + (1 : Int32)) M)))))))))) := rfl
set_option maxRecDepth 100000 in
set_option maxHeartbeats 4000000 in
theorem bw_X5_free_9 {E : ps_E} {X : ps_X (Int32 × ps_M)} (C : ps_C (ps_Yc E) X cX5_free RX5 (some .int) 3 63 3) (RT : ps_RI (ps_Yc E) X cX5_free .int) (M : ps_M) : ∀ (n : Nat) (x1 : Int32) (x2 : Int32), ok_X5_free_9 n x1 x2 M → ps_G (ps_Yc E) X (fv_X5_free_9 n x1 x2 M, M) 9 [(0, .ref (ps_ad E 0)), (1, .int x1), (2, .int x2)] [] M := by
  intro n
  induction n with
  | zero => intro x1 x2 h; exact h.elim
  | succ n ih =>
    intro x1 x2 hk
    rw [fv_X5_free_9_s]
    rw [ok_X5_free_9_s] at hk
    refine gw_iload_n C 10 dX5_free_9 2 rfl rfl ?_
    refine gw_aload_n C 11 dX5_free_10 0 rfl rfl ?_
    refine gf_X5_12 C 14 dX5_free_11 rfl ?_
    refine gf_X5_55 C 17 dX5_free_14 rfl kd_1 ?_
    refine gw_ic_geP C 55 20 dX5_free_17 (by decide) rfl (fun c17 => ?_) (fun c17 => ?_)
    · refine gw_bipush C 57 dX5_free_55 (v := (-5)) (by decide) rfl ?_
      exact RT _ _ _ _ dX5_free_57 rfl
    · refine gw_aload_n C 21 dX5_free_20 0 rfl rfl ?_
      refine gf_X5_12 C 24 dX5_free_21 rfl ?_
      refine gf_X5_80 C 27 dX5_free_24 rfl kd_1 ?_
      refine gw_iload_n C 28 dX5_free_27 2 rfl rfl ?_
      refine gw_alK C 29 dX5_free_28 rfl (kd_d14 kd_1) (hk.2 c17).1 ?_
      refine gw_cVp C 32 dX5_free_29 rfl yv_X1_isFree lk_X5_84 [] [] rfl (ct_X1_isFree (E := E) (l := ps_l X) ((1 + 14) + 1 + (x2).toNatClampNeg) (kd_K (kd_d14 kd_1) (hk.2 c17).1) M (hk.2 c17).2.1) (rc_K (kd_K (kd_d14 kd_1) (hk.2 c17).1)) rfl (Nat.le_of_ble_eq_true rfl) (Nat.le_of_ble_eq_true rfl) (Nat.le_of_ble_eq_true rfl) ?_
      refine gw_if_eqP C 49 35 dX5_free_32 (by decide) rfl (fun c32 => ?_) (fun c32 => ?_)
      · refine gw_iinc C 52 dX5_free_49 rfl (y := 1) (by decide) rfl 2 rfl [(0, .ref (ps_ad E 0)), (1, .int x1), (2, .int (x2 + (1 : Int32)))] [1, 2, 0] (by decide) rfl ?_
        refine gw_goto C 9 dX5_free_52 (by decide) ?_
        exact ih x1 (x2 + (1 : Int32)) ((hk.2 c17).2.2.1 c32)
      · refine gw_aload_n C 36 dX5_free_35 0 rfl rfl ?_
        refine gf_X5_12 C 39 dX5_free_36 rfl ?_
        refine gw_iload_n C 40 dX5_free_39 2 rfl rfl ?_
        refine gw_cVp C 43 dX5_free_40 rfl yv_X2_placeAmongFree lk_X5_220 [.int x2] [] rfl (ct_X2_placeAmongFree (E := E) (l := ps_l X) 1 x2 kd_1 M ((hk.2 c17).2.2.2 c32).1) (rc_D kd_1) rfl (Nat.le_of_ble_eq_true rfl) (Nat.le_of_ble_eq_true rfl) (Nat.le_of_ble_eq_true rfl) ?_
        refine gw_iload_n C 44 dX5_free_43 1 rfl rfl ?_
        refine gw_ic_neP C 49 47 dX5_free_44 (by decide) rfl (fun c44 => ?_) (fun c44 => ?_)
        · refine gw_iload_n C 48 dX5_free_47 2 rfl rfl ?_
          exact RT _ _ _ _ dX5_free_48 rfl
        · refine gw_iinc C 52 dX5_free_49 rfl (y := 1) (by decide) rfl 2 rfl [(0, .ref (ps_ad E 0)), (1, .int x1), (2, .int (x2 + (1 : Int32)))] [1, 2, 0] (by decide) rfl ?_
          refine gw_goto C 9 dX5_free_52 (by decide) ?_
          exact ih x1 (x2 + (1 : Int32)) (((hk.2 c17).2.2.2 c32).2.2 c44)
def fv_X5_free (x1 : Int32) (M : ps_M) : Int32 := if 0 ≤ x1 then (fv_X5_free_9 ps_FU x1 (0 : Int32) M) else ((-2 : Int32))
def ok_X5_free (x1 : Int32) (M : ps_M) : Prop := (0 ≤ x1 → (ok_X5_free_9 ps_FU x1 (0 : Int32) M)) ∧ (¬ (0 ≤ x1) → True)
set_option maxRecDepth 100000 in
set_option maxHeartbeats 4000000 in
theorem bw_X5_free {E : ps_E} {X : ps_X (Int32 × ps_M)} (C : ps_C (ps_Yc E) X cX5_free RX5 (some .int) 3 63 3) (RT : ps_RI (ps_Yc E) X cX5_free .int) (M : ps_M) (x1 : Int32) (hk : ok_X5_free x1 M) : ps_G (ps_Yc E) X (fv_X5_free x1 M, M) 0 [(0, .ref (ps_ad E 0)), (1, .int x1)] [] M := by
  unfold fv_X5_free
  unfold ok_X5_free at hk
  refine gw_iload_n C 1 dX5_free_0 1 rfl rfl ?_
  refine gw_if_geP C 7 4 dX5_free_1 (by decide) rfl (fun c1 => ?_) (fun c1 => ?_)
  · refine gw_iconst C 8 dX5_free_7 (v := 0) (by decide) rfl ?_
    refine gw_istore_n C 9 dX5_free_8 rfl [(0, .ref (ps_ad E 0)), (1, .int x1), (2, .int (0 : Int32))] [1, 2, 0] (by decide) rfl ?_
    exact bw_X5_free_9 C RT M  ps_FU x1 (0 : Int32) (hk.1 c1)
  · refine gw_bipush C 6 dX5_free_4 (v := (-2)) (by decide) rfl ?_
    exact RT _ _ _ _ dX5_free_6 rfl
theorem ct_X5_free {E : ps_E} {l : Launch} (x1 : Int32)  (M : ps_M) (hk : ok_X5_free x1 M) : ps_CI (ps_Yc E) l yX5_free cX5_free 3 (some .int) 3 63 [.ref (ps_ad E 0), .int x1] M (fv_X5_free x1 M, M) := ps_metI RX5 (by decide) rfl (Nat.le_of_ble_eq_true rfl) rfl (fun X _ C RT => bw_X5_free C RT M x1 hk)
def fv_X5_busiest_9 : Nat → Int32 → Int32 → ps_M → Int32
  | 0, _, _, M => 0
  | n + 1, x1, x2, M => if (M 1 1) ≤ x2 then ((-5 : Int32)) else (if (fv_X2_placeByQueue 1 x2 M) = x1 then x2 else (fv_X5_busiest_9 n x1 (x2 + (1 : Int32)) M))
theorem fv_X5_busiest_9_s (n : Nat) (x1 : Int32) (x2 : Int32) (M : ps_M) : fv_X5_busiest_9 (n + 1) x1 x2 M = (if (M 1 1) ≤ x2 then ((-5 : Int32)) else (if (fv_X2_placeByQueue 1 x2 M) = x1 then x2 else (fv_X5_busiest_9 n x1 (x2 + (1 : Int32)) M))) := rfl
def ok_X5_busiest_9 : Nat → Int32 → Int32 → ps_M → Prop
  | 0, _, _, _ => False
  | n + 1, x1, x2, M => ((M 1 1) ≤ x2 → True) ∧ (¬ ((M 1 1) ≤ x2) → ((ok_X2_placeByQueue 1 x2 M) ∧ (((fv_X2_placeByQueue 1 x2 M) = x1 → True) ∧ (¬ ((fv_X2_placeByQueue 1 x2 M) = x1) → (ok_X5_busiest_9 n x1 (x2 + (1 : Int32)) M)))))
theorem ok_X5_busiest_9_s (n : Nat) (x1 : Int32) (x2 : Int32) (M : ps_M) : ok_X5_busiest_9 (n + 1) x1 x2 M = (((M 1 1) ≤ x2 → True) ∧ (¬ ((M 1 1) ≤ x2) → ((ok_X2_placeByQueue 1 x2 M) ∧ (((fv_X2_placeByQueue 1 x2 M) = x1 → True) ∧ (¬ ((fv_X2_placeByQueue 1 x2 M) = x1) → (ok_X5_busiest_9 n x1 (x2 + (1 : Int32)) M)))))) := rfl
set_option maxRecDepth 100000 in
set_option maxHeartbeats 4000000 in
theorem bw_X5_busiest_9 {E : ps_E} {X : ps_X (Int32 × ps_M)} (C : ps_C (ps_Yc E) X cX5_busiest RX5 (some .int) 1 24 3) (RT : ps_RI (ps_Yc E) X cX5_busiest .int) (M : ps_M) : ∀ (n : Nat) (x1 : Int32) (x2 : Int32), ok_X5_busiest_9 n x1 x2 M → ps_G (ps_Yc E) X (fv_X5_busiest_9 n x1 x2 M, M) 9 [(0, .ref (ps_ad E 0)), (1, .int x1), (2, .int x2)] [] M := by
  intro n
  induction n with
  | zero => intro x1 x2 h; exact h.elim
  | succ n ih =>
    intro x1 x2 hk
    rw [fv_X5_busiest_9_s]
    rw [ok_X5_busiest_9_s] at hk
    refine gw_iload_n C 10 dX5_busiest_9 2 rfl rfl ?_
    refine gw_aload_n C 11 dX5_busiest_10 0 rfl rfl ?_
    refine gf_X5_12 C 14 dX5_busiest_11 rfl ?_
    refine gf_X5_43 C 17 dX5_busiest_14 rfl kd_1 ?_
    refine gw_ic_geP C 40 20 dX5_busiest_17 (by decide) rfl (fun c17 => ?_) (fun c17 => ?_)
    · refine gw_bipush C 42 dX5_busiest_40 (v := (-5)) (by decide) rfl ?_
      exact RT _ _ _ _ dX5_busiest_42 rfl
    · refine gw_aload_n C 21 dX5_busiest_20 0 rfl rfl ?_
      refine gf_X5_12 C 24 dX5_busiest_21 rfl ?_
      refine gw_iload_n C 25 dX5_busiest_24 2 rfl rfl ?_
      refine gw_cVp C 28 dX5_busiest_25 rfl yv_X2_placeByQueue lk_X5_223 [.int x2] [] rfl (ct_X2_placeByQueue (E := E) (l := ps_l X) 1 x2 kd_1 M (hk.2 c17).1) (rc_D kd_1) rfl (Nat.le_of_ble_eq_true rfl) (Nat.le_of_ble_eq_true rfl) (Nat.le_of_ble_eq_true rfl) ?_
      refine gw_iload_n C 29 dX5_busiest_28 1 rfl rfl ?_
      refine gw_ic_neP C 34 32 dX5_busiest_29 (by decide) rfl (fun c29 => ?_) (fun c29 => ?_)
      · refine gw_iload_n C 33 dX5_busiest_32 2 rfl rfl ?_
        exact RT _ _ _ _ dX5_busiest_33 rfl
      · refine gw_iinc C 37 dX5_busiest_34 rfl (y := 1) (by decide) rfl 2 rfl [(0, .ref (ps_ad E 0)), (1, .int x1), (2, .int (x2 + (1 : Int32)))] [1, 2, 0] (by decide) rfl ?_
        refine gw_goto C 9 dX5_busiest_37 (by decide) ?_
        exact ih x1 (x2 + (1 : Int32)) ((hk.2 c17).2.2 c29)
def fv_X5_busiest (x1 : Int32) (M : ps_M) : Int32 := if 0 ≤ x1 then (fv_X5_busiest_9 ps_FU x1 (0 : Int32) M) else ((-2 : Int32))
def ok_X5_busiest (x1 : Int32) (M : ps_M) : Prop := (0 ≤ x1 → (ok_X5_busiest_9 ps_FU x1 (0 : Int32) M)) ∧ (¬ (0 ≤ x1) → True)
set_option maxRecDepth 100000 in
set_option maxHeartbeats 4000000 in
theorem bw_X5_busiest {E : ps_E} {X : ps_X (Int32 × ps_M)} (C : ps_C (ps_Yc E) X cX5_busiest RX5 (some .int) 1 24 3) (RT : ps_RI (ps_Yc E) X cX5_busiest .int) (M : ps_M) (x1 : Int32) (hk : ok_X5_busiest x1 M) : ps_G (ps_Yc E) X (fv_X5_busiest x1 M, M) 0 [(0, .ref (ps_ad E 0)), (1, .int x1)] [] M := by
  unfold fv_X5_busiest
  unfold ok_X5_busiest at hk
  refine gw_iload_n C 1 dX5_busiest_0 1 rfl rfl ?_
  refine gw_if_geP C 7 4 dX5_busiest_1 (by decide) rfl (fun c1 => ?_) (fun c1 => ?_)
  · refine gw_iconst C 8 dX5_busiest_7 (v := 0) (by decide) rfl ?_
    refine gw_istore_n C 9 dX5_busiest_8 rfl [(0, .ref (ps_ad E 0)), (1, .int x1), (2, .int (0 : Int32))] [1, 2, 0] (by decide) rfl ?_
    exact bw_X5_busiest_9 C RT M  ps_FU x1 (0 : Int32) (hk.1 c1)
  · refine gw_bipush C 6 dX5_busiest_4 (v := (-2)) (by decide) rfl ?_
    exact RT _ _ _ _ dX5_busiest_6 rfl
theorem ct_X5_busiest {E : ps_E} {l : Launch} (x1 : Int32)  (M : ps_M) (hk : ok_X5_busiest x1 M) : ps_CI (ps_Yc E) l yX5_busiest cX5_busiest 3 (some .int) 1 24 [.ref (ps_ad E 0), .int x1] M (fv_X5_busiest x1 M, M) := ps_metI RX5 (by decide) rfl (Nat.le_of_ble_eq_true rfl) rfl (fun X _ C RT => bw_X5_busiest C RT M x1 hk)
def fv_X5_queueIn (x1 : Int32) (x2 : Int32) (M : ps_M) : Int32 × ps_M := if (fv_X2_hasStation 1 x1 M) = 0 then (((-1 : Int32), M)) else (if (fv_X5_isWithin x2 (0 : Int32) (18 : Int32) M) = 0 then (((-2 : Int32), M)) else (if ((M 1 0) + x2) ≤ (18 : Int32) then (((((fv_X2_letHoursPass 28 x2 (fv_X2_copyFrom 28 1 M)).2) ((28 + 1) + 1 + 2 * (x1).toNatClampNeg) 1), (fv_X2_letHoursPass 28 x2 (fv_X2_copyFrom 28 1 M)).2)) else (((-4 : Int32), M))))
def ok_X5_queueIn (x1 : Int32) (x2 : Int32) (M : ps_M) : Prop := (ok_X2_hasStation 1 x1 M) ∧ (((fv_X2_hasStation 1 x1 M) = 0 → True) ∧ (¬ ((fv_X2_hasStation 1 x1 M) = 0) → ((ok_X5_isWithin x2 (0 : Int32) (18 : Int32) M) ∧ (((fv_X5_isWithin x2 (0 : Int32) (18 : Int32) M) = 0 → True) ∧ (¬ ((fv_X5_isWithin x2 (0 : Int32) (18 : Int32) M) = 0) → ((((M 1 0) + x2) ≤ (18 : Int32) → ((ok_X2_copyFrom 28 1 M) ∧ ((ok_X2_letHoursPass 28 x2 (fv_X2_copyFrom 28 1 M)) ∧ ((vp_in x1 6) ∧ True)))) ∧ (¬ (((M 1 0) + x2) ≤ (18 : Int32)) → True)))))))
set_option maxRecDepth 100000 in
set_option maxHeartbeats 4000000 in
theorem bw_X5_queueIn {E : ps_E} {X : ps_X (Int32 × ps_M)} (C : ps_C (ps_Yc E) X cX5_queueIn RX5 (some .int) 5 108 3) (RT : ps_RI (ps_Yc E) X cX5_queueIn .int) (x1 : Int32) (x2 : Int32) (M : ps_M) (hk : ok_X5_queueIn x1 x2 M) : ps_G (ps_Yc E) X (fv_X5_queueIn x1 x2 M) 0 [(0, .ref (ps_ad E 0)), (1, .int x1), (2, .int x2)] [] M := by
  unfold fv_X5_queueIn
  unfold ok_X5_queueIn at hk
  refine gw_aload_n C 1 dX5_queueIn_0 0 rfl rfl ?_
  refine gf_X5_12 C 4 dX5_queueIn_1 rfl ?_
  refine gw_iload_n C 5 dX5_queueIn_4 1 rfl rfl ?_
  refine gw_cVp C 8 dX5_queueIn_5 rfl yv_X2_hasStation lk_X5_62 [.int x1] [] rfl (ct_X2_hasStation (E := E) (l := ps_l X) 1 x1 kd_1 M hk.1) (rc_D kd_1) rfl (Nat.le_of_ble_eq_true rfl) (Nat.le_of_ble_eq_true rfl) (Nat.le_of_ble_eq_true rfl) ?_
  refine gw_if_ne C 13 11 dX5_queueIn_8 (by decide) rfl (fun c8 => ?_) (fun c8 => ?_)
  · refine gw_iconst C 12 dX5_queueIn_11 (v := (-1)) (by decide) rfl ?_
    exact RT _ _ _ _ dX5_queueIn_12 rfl
  · refine gw_iload_n C 14 dX5_queueIn_13 2 rfl rfl ?_
    refine gw_iconst C 15 dX5_queueIn_14 (v := 0) (by decide) rfl ?_
    refine gw_bipush C 17 dX5_queueIn_15 (v := 18) (by decide) rfl ?_
    refine gw_cSp C 20 dX5_queueIn_17 rfl yv_X5_isWithin lk_X5_51 [.int x2, .int (0 : Int32), .int (18 : Int32)] [] rfl (ct_X5_isWithin (E := E) (l := ps_l X) x2 (0 : Int32) (18 : Int32) M (hk.2.2 c8).1) rfl (Nat.le_of_ble_eq_true rfl) (Nat.le_of_ble_eq_true rfl) (Nat.le_of_ble_eq_true rfl) ?_
    refine gw_if_ne C 26 23 dX5_queueIn_20 (by decide) rfl (fun c20 => ?_) (fun c20 => ?_)
    · refine gw_bipush C 25 dX5_queueIn_23 (v := (-2)) (by decide) rfl ?_
      exact RT _ _ _ _ dX5_queueIn_25 rfl
    · refine gw_aload_n C 27 dX5_queueIn_26 0 rfl rfl ?_
      refine gf_X5_12 C 30 dX5_queueIn_27 rfl ?_
      refine gf_X5_107 C 33 dX5_queueIn_30 rfl kd_1 ?_
      refine gw_iload_n C 34 dX5_queueIn_33 2 rfl rfl ?_
      refine gw_iadd C 35 dX5_queueIn_34 rfl ?_
      refine gw_bipush C 37 dX5_queueIn_35 (v := 18) (by decide) rfl ?_
      refine gw_ic_le C 43 40 dX5_queueIn_37 (by decide) rfl (fun c37 => ?_) (fun c37 => ?_)
      · refine gw_aload_n C 44 dX5_queueIn_43 0 rfl rfl ?_
        refine gf_X5_16 C 47 dX5_queueIn_44 rfl ?_
        refine gw_aload_n C 48 dX5_queueIn_47 0 rfl rfl ?_
        refine gf_X5_12 C 51 dX5_queueIn_48 rfl ?_
        refine gw_cVv C 54 dX5_queueIn_51 rfl yv_X2_copyFrom lk_X5_176 [.ref (ps_ad E 1)] [] rfl (ct_X2_copyFrom (E := E) (l := ps_l X) 28 1 kd_28 kd_1 M (((hk.2.2 c8).2.2 c20).1 c37).1) (rc_D kd_28) rfl (Nat.le_of_ble_eq_true rfl) (Nat.le_of_ble_eq_true rfl) (Nat.le_of_ble_eq_true rfl) ?_
        refine gw_aload_n C 55 dX5_queueIn_54 0 rfl rfl ?_
        refine gf_X5_16 C 58 dX5_queueIn_55 rfl ?_
        refine gw_iload_n C 59 dX5_queueIn_58 2 rfl rfl ?_
        refine gw_cVi C 62 dX5_queueIn_59 rfl yv_X2_letHoursPass lk_X5_110 [.int x2] [] rfl (ct_X2_letHoursPass (E := E) (l := ps_l X) 28 x2 kd_28 (fv_X2_copyFrom 28 1 M) (((hk.2.2 c8).2.2 c20).1 c37).2.1) (rc_D kd_28) rfl (Nat.le_of_ble_eq_true rfl) (Nat.le_of_ble_eq_true rfl) (Nat.le_of_ble_eq_true rfl) ?_
        refine gw_pop C 63 dX5_queueIn_62 rfl rfl ?_
        refine gw_aload_n C 64 dX5_queueIn_63 0 rfl rfl ?_
        refine gf_X5_16 C 67 dX5_queueIn_64 rfl ?_
        refine gf_X5_69 C 70 dX5_queueIn_67 rfl kd_28 ?_
        refine gw_iload_n C 71 dX5_queueIn_70 1 rfl rfl ?_
        refine gw_alS C 72 dX5_queueIn_71 rfl (kd_d1 kd_28) (((hk.2.2 c8).2.2 c20).1 c37).2.2.1 ?_
        refine gf_X5_135 C 75 dX5_queueIn_72 rfl (kd_S (kd_d1 kd_28) (((hk.2.2 c8).2.2 c20).1 c37).2.2.1) ?_
        exact RT _ _ _ _ dX5_queueIn_75 rfl
      · refine gw_bipush C 42 dX5_queueIn_40 (v := (-4)) (by decide) rfl ?_
        exact RT _ _ _ _ dX5_queueIn_42 rfl
theorem ct_X5_queueIn {E : ps_E} {l : Launch} (x1 : Int32) (x2 : Int32)  (M : ps_M) (hk : ok_X5_queueIn x1 x2 M) : ps_CI (ps_Yc E) l yX5_queueIn cX5_queueIn 3 (some .int) 5 108 [.ref (ps_ad E 0), .int x1, .int x2] M (fv_X5_queueIn x1 x2 M) := ps_metI RX5 (by decide) rfl (Nat.le_of_ble_eq_true rfl) rfl (fun X _ C RT => bw_X5_queueIn C RT x1 x2 M hk)
def fv_X5_lacks_58 (x1 : Int32) (k2 : Nat) (s0 : Int32) (M : ps_M) : Int32 × ps_M := ((if (0 : Int32) < (((M k2 3) - (M ((1 + 1) + 1 + 2 * (x1).toNatClampNeg) 3)) - (M ((1 + 1) + 1 + 2 * (x1).toNatClampNeg) 5)) then (((M k2 3) - (M ((1 + 1) + 1 + 2 * (x1).toNatClampNeg) 3)) - (M ((1 + 1) + 1 + 2 * (x1).toNatClampNeg) 5)) else (0 : Int32)), M)
def ok_X5_lacks_58 (x1 : Int32) (k2 : Nat) (s0 : Int32) (M : ps_M) : Prop := (vp_in x1 6) ∧ ((vp_in x1 6) ∧ True)
set_option maxRecDepth 100000 in
set_option maxHeartbeats 4000000 in
theorem bw_X5_lacks_58 {E : ps_E} {X : ps_X (Int32 × ps_M)} (C : ps_C (ps_Yc E) X cX5_lacks RX5 (some .int) 5 108 4) (RT : ps_RI (ps_Yc E) X cX5_lacks .int) (x1 : Int32) (k2 : Nat) (s0 : Int32) (hk2 : ps_kd k2 = 4) (M : ps_M) (hk : ok_X5_lacks_58 x1 k2 s0 M) : ps_G (ps_Yc E) X (fv_X5_lacks_58 x1 k2 s0 M) 58 [(0, .ref (ps_ad E 0)), (1, .int x1), (2, .ref (ps_ad E k2))] [.int s0] M := by
  unfold fv_X5_lacks_58
  unfold ok_X5_lacks_58 at hk
  refine gw_pop C 59 dX5_lacks_58 rfl rfl ?_
  refine gw_aload_n C 60 dX5_lacks_59 2 rfl rfl ?_
  refine gf_X5_186 C 63 dX5_lacks_60 rfl hk2 ?_
  refine gw_aload_n C 64 dX5_lacks_63 0 rfl rfl ?_
  refine gf_X5_12 C 67 dX5_lacks_64 rfl ?_
  refine gf_X5_69 C 70 dX5_lacks_67 rfl kd_1 ?_
  refine gw_iload_n C 71 dX5_lacks_70 1 rfl rfl ?_
  refine gw_alS C 72 dX5_lacks_71 rfl (kd_d1 kd_1) hk.1 ?_
  refine gf_X5_186 C 75 dX5_lacks_72 rfl (kd_S (kd_d1 kd_1) hk.1) ?_
  refine gw_isub C 76 dX5_lacks_75 rfl ?_
  refine gw_istore_n C 77 dX5_lacks_76 rfl [(0, .ref (ps_ad E 0)), (1, .int x1), (2, .ref (ps_ad E k2)), (3, .int ((M k2 3) - (M ((1 + 1) + 1 + 2 * (x1).toNatClampNeg) 3)))] [1, 2, 3, 0] (by decide) rfl ?_
  refine gw_iconst C 78 dX5_lacks_77 (v := 0) (by decide) rfl ?_
  refine gw_iload_n C 79 dX5_lacks_78 3 rfl rfl ?_
  refine gw_aload_n C 80 dX5_lacks_79 0 rfl rfl ?_
  refine gf_X5_12 C 83 dX5_lacks_80 rfl ?_
  refine gf_X5_69 C 86 dX5_lacks_83 rfl kd_1 ?_
  refine gw_iload_n C 87 dX5_lacks_86 1 rfl rfl ?_
  refine gw_alS C 88 dX5_lacks_87 rfl (kd_d1 kd_1) hk.2.1 ?_
  refine gf_X5_116 C 91 dX5_lacks_88 rfl (kd_S (kd_d1 kd_1) hk.2.1) ?_
  refine gw_isub C 92 dX5_lacks_91 rfl ?_
  refine gw_mmax C 95 dX5_lacks_92 rfl lk_X5_226 (Nat.le_of_ble_eq_true rfl) (Nat.le_of_ble_eq_true rfl) ?_
  exact RT _ _ _ _ dX5_lacks_95 rfl
def fv_X5_lacks (x1 : Int32) (M : ps_M) : Int32 × ps_M := if (fv_X2_hasStation 1 x1 M) = 0 then (((-1 : Int32), M)) else (fv_X5_lacks_58 x1 ((28 + 1) + 1 + 2 * (x1).toNatClampNeg) ((fv_X2_letHoursPass 28 ((18 : Int32) - ((ps_st (fv_X2_copyFrom 28 1 M) ((28 + 1) + 1 + 2 * (x1).toNatClampNeg) 5 (7500 : Int32)) 1 0)) (ps_st (fv_X2_copyFrom 28 1 M) ((28 + 1) + 1 + 2 * (x1).toNatClampNeg) 5 (7500 : Int32))).1) ((fv_X2_letHoursPass 28 ((18 : Int32) - ((ps_st (fv_X2_copyFrom 28 1 M) ((28 + 1) + 1 + 2 * (x1).toNatClampNeg) 5 (7500 : Int32)) 1 0)) (ps_st (fv_X2_copyFrom 28 1 M) ((28 + 1) + 1 + 2 * (x1).toNatClampNeg) 5 (7500 : Int32))).2))
def ok_X5_lacks (x1 : Int32) (M : ps_M) : Prop := (ok_X2_hasStation 1 x1 M) ∧ (((fv_X2_hasStation 1 x1 M) = 0 → True) ∧ (¬ ((fv_X2_hasStation 1 x1 M) = 0) → ((ok_X2_copyFrom 28 1 M) ∧ ((vp_in x1 6) ∧ ((ok_X2_letHoursPass 28 ((18 : Int32) - ((ps_st (fv_X2_copyFrom 28 1 M) ((28 + 1) + 1 + 2 * (x1).toNatClampNeg) 5 (7500 : Int32)) 1 0)) (ps_st (fv_X2_copyFrom 28 1 M) ((28 + 1) + 1 + 2 * (x1).toNatClampNeg) 5 (7500 : Int32))) ∧ (ok_X5_lacks_58 x1 ((28 + 1) + 1 + 2 * (x1).toNatClampNeg) ((fv_X2_letHoursPass 28 ((18 : Int32) - ((ps_st (fv_X2_copyFrom 28 1 M) ((28 + 1) + 1 + 2 * (x1).toNatClampNeg) 5 (7500 : Int32)) 1 0)) (ps_st (fv_X2_copyFrom 28 1 M) ((28 + 1) + 1 + 2 * (x1).toNatClampNeg) 5 (7500 : Int32))).1) ((fv_X2_letHoursPass 28 ((18 : Int32) - ((ps_st (fv_X2_copyFrom 28 1 M) ((28 + 1) + 1 + 2 * (x1).toNatClampNeg) 5 (7500 : Int32)) 1 0)) (ps_st (fv_X2_copyFrom 28 1 M) ((28 + 1) + 1 + 2 * (x1).toNatClampNeg) 5 (7500 : Int32))).2)))))))
set_option maxRecDepth 100000 in
set_option maxHeartbeats 4000000 in
theorem bw_X5_lacks {E : ps_E} {X : ps_X (Int32 × ps_M)} (C : ps_C (ps_Yc E) X cX5_lacks RX5 (some .int) 5 108 4) (RT : ps_RI (ps_Yc E) X cX5_lacks .int) (x1 : Int32) (M : ps_M) (hk : ok_X5_lacks x1 M) : ps_G (ps_Yc E) X (fv_X5_lacks x1 M) 0 [(0, .ref (ps_ad E 0)), (1, .int x1)] [] M := by
  unfold fv_X5_lacks
  unfold ok_X5_lacks at hk
  refine gw_aload_n C 1 dX5_lacks_0 0 rfl rfl ?_
  refine gf_X5_12 C 4 dX5_lacks_1 rfl ?_
  refine gw_iload_n C 5 dX5_lacks_4 1 rfl rfl ?_
  refine gw_cVp C 8 dX5_lacks_5 rfl yv_X2_hasStation lk_X5_62 [.int x1] [] rfl (ct_X2_hasStation (E := E) (l := ps_l X) 1 x1 kd_1 M hk.1) (rc_D kd_1) rfl (Nat.le_of_ble_eq_true rfl) (Nat.le_of_ble_eq_true rfl) (Nat.le_of_ble_eq_true rfl) ?_
  refine gw_if_ne C 13 11 dX5_lacks_8 (by decide) rfl (fun c8 => ?_) (fun c8 => ?_)
  · refine gw_iconst C 12 dX5_lacks_11 (v := (-1)) (by decide) rfl ?_
    exact RT _ _ _ _ dX5_lacks_12 rfl
  · refine gw_aload_n C 14 dX5_lacks_13 0 rfl rfl ?_
    refine gf_X5_16 C 17 dX5_lacks_14 rfl ?_
    refine gw_aload_n C 18 dX5_lacks_17 0 rfl rfl ?_
    refine gf_X5_12 C 21 dX5_lacks_18 rfl ?_
    refine gw_cVv C 24 dX5_lacks_21 rfl yv_X2_copyFrom lk_X5_176 [.ref (ps_ad E 1)] [] rfl (ct_X2_copyFrom (E := E) (l := ps_l X) 28 1 kd_28 kd_1 M (hk.2.2 c8).1) (rc_D kd_28) rfl (Nat.le_of_ble_eq_true rfl) (Nat.le_of_ble_eq_true rfl) (Nat.le_of_ble_eq_true rfl) ?_
    refine gw_aload_n C 25 dX5_lacks_24 0 rfl rfl ?_
    refine gf_X5_16 C 28 dX5_lacks_25 rfl ?_
    refine gf_X5_69 C 31 dX5_lacks_28 rfl kd_28 ?_
    refine gw_iload_n C 32 dX5_lacks_31 1 rfl rfl ?_
    refine gw_alS C 33 dX5_lacks_32 rfl (kd_d1 kd_28) (hk.2.2 c8).2.1 ?_
    refine gw_astore_n C 34 dX5_lacks_33 rfl [(0, .ref (ps_ad E 0)), (1, .int x1), (2, .ref (ps_ad E ((28 + 1) + 1 + 2 * (x1).toNatClampNeg)))] [1, 2, 0] (by decide) rfl ?_
    refine gw_aload_n C 35 dX5_lacks_34 2 rfl rfl ?_
    refine gw_sipush C 38 dX5_lacks_35 (v := 7500) (by decide) rfl ?_
    refine pf_X5_116 C 41 dX5_lacks_38 rfl (kd_S (kd_d1 kd_28) (hk.2.2 c8).2.1) ?_
    refine gw_aload_n C 42 dX5_lacks_41 0 rfl rfl ?_
    refine gf_X5_16 C 45 dX5_lacks_42 rfl ?_
    refine gw_bipush C 47 dX5_lacks_45 (v := 18) (by decide) rfl ?_
    refine gw_aload_n C 48 dX5_lacks_47 0 rfl rfl ?_
    refine gf_X5_12 C 51 dX5_lacks_48 rfl ?_
    refine gf_X5_107 C 54 dX5_lacks_51 rfl kd_1 ?_
    refine gw_isub C 55 dX5_lacks_54 rfl ?_
    refine gw_cVi C 58 dX5_lacks_55 rfl yv_X2_letHoursPass lk_X5_110 [.int ((18 : Int32) - ((ps_st (fv_X2_copyFrom 28 1 M) ((28 + 1) + 1 + 2 * (x1).toNatClampNeg) 5 (7500 : Int32)) 1 0))] [] rfl (ct_X2_letHoursPass (E := E) (l := ps_l X) 28 ((18 : Int32) - ((ps_st (fv_X2_copyFrom 28 1 M) ((28 + 1) + 1 + 2 * (x1).toNatClampNeg) 5 (7500 : Int32)) 1 0)) kd_28 (ps_st (fv_X2_copyFrom 28 1 M) ((28 + 1) + 1 + 2 * (x1).toNatClampNeg) 5 (7500 : Int32)) (hk.2.2 c8).2.2.1) (rc_D kd_28) rfl (Nat.le_of_ble_eq_true rfl) (Nat.le_of_ble_eq_true rfl) (Nat.le_of_ble_eq_true rfl) ?_
    exact bw_X5_lacks_58 C RT  x1 ((28 + 1) + 1 + 2 * (x1).toNatClampNeg) ((fv_X2_letHoursPass 28 ((18 : Int32) - ((ps_st (fv_X2_copyFrom 28 1 M) ((28 + 1) + 1 + 2 * (x1).toNatClampNeg) 5 (7500 : Int32)) 1 0)) (ps_st (fv_X2_copyFrom 28 1 M) ((28 + 1) + 1 + 2 * (x1).toNatClampNeg) 5 (7500 : Int32))).1) (kd_S (kd_d1 kd_28) (hk.2.2 c8).2.1) ((fv_X2_letHoursPass 28 ((18 : Int32) - ((ps_st (fv_X2_copyFrom 28 1 M) ((28 + 1) + 1 + 2 * (x1).toNatClampNeg) 5 (7500 : Int32)) 1 0)) (ps_st (fv_X2_copyFrom 28 1 M) ((28 + 1) + 1 + 2 * (x1).toNatClampNeg) 5 (7500 : Int32))).2) (hk.2.2 c8).2.2.2
theorem ct_X5_lacks {E : ps_E} {l : Launch} (x1 : Int32)  (M : ps_M) (hk : ok_X5_lacks x1 M) : ps_CI (ps_Yc E) l yX5_lacks cX5_lacks 4 (some .int) 5 108 [.ref (ps_ad E 0), .int x1] M (fv_X5_lacks x1 M) := ps_metI RX5 (by decide) rfl (Nat.le_of_ble_eq_true rfl) rfl (fun X _ C RT => bw_X5_lacks C RT x1 M hk)
def fv_X5_total  (M : ps_M) : ps_M := (fv_X4_becomeSumOf 82 (1 + 1) (M 1 1) M)
def ok_X5_total  (M : ps_M) : Prop := (ok_X4_becomeSumOf 82 (1 + 1) (M 1 1) M) ∧ True
set_option maxRecDepth 100000 in
set_option maxHeartbeats 4000000 in
theorem bw_X5_total {E : ps_E} {X : ps_X (Nat × ps_M)} (C : ps_C (ps_Yc E) X cX5_total RX5 (some (.object "PaperStations$Station")) 1 23 1) (RT : ps_RR (ps_Yc E) X cX5_total)  (M : ps_M) (hk : ok_X5_total  M) : ps_G (ps_Yc E) X (ps_ad E 82, fv_X5_total  M) 0 [(0, .ref (ps_ad E 0))] [] M := by
  unfold fv_X5_total
  unfold ok_X5_total at hk
  refine gw_aload_n C 1 dX5_total_0 0 rfl rfl ?_
  refine gf_X5_25 C 4 dX5_total_1 rfl ?_
  refine gw_aload_n C 5 dX5_total_4 0 rfl rfl ?_
  refine gf_X5_12 C 8 dX5_total_5 rfl ?_
  refine gf_X5_69 C 11 dX5_total_8 rfl kd_1 ?_
  refine gw_aload_n C 12 dX5_total_11 0 rfl rfl ?_
  refine gf_X5_12 C 15 dX5_total_12 rfl ?_
  refine gf_X5_43 C 18 dX5_total_15 rfl kd_1 ?_
  refine gw_cVv C 21 dX5_total_18 rfl yv_X4_becomeSumOf lk_X5_246 [.ref (ps_ad E (1 + 1)), .int (M 1 1)] [] rfl (ct_X4_becomeSumOf (E := E) (l := ps_l X) 82 (1 + 1) (M 1 1) kd_82 (kd_d1 kd_1) M hk.1) (rc_S kd_82) rfl (Nat.le_of_ble_eq_true rfl) (Nat.le_of_ble_eq_true rfl) (Nat.le_of_ble_eq_true rfl) ?_
  refine gw_aload_n C 22 dX5_total_21 0 rfl rfl ?_
  refine gf_X5_25 C 25 dX5_total_22 rfl ?_
  exact RT _ _ _ _ dX5_total_25
theorem ct_X5_total {E : ps_E} {l : Launch}   (M : ps_M) (hk : ok_X5_total  M) : ps_CR (ps_Yc E) l yX5_total cX5_total 1 (some (.object "PaperStations$Station")) 1 23 [.ref (ps_ad E 0)] M (ps_ad E 82, fv_X5_total  M) := ps_metR (Or.inl ⟨_, rfl⟩) RX5 (by decide) rfl (Nat.le_of_ble_eq_true rfl) rfl (fun X _ C RT => bw_X5_total C RT M hk)
def fv_X5_count (x1 : Int32) (M : ps_M) : Int32 × ps_M := if x1 = (0 : Int32) then (((M 1 0), M)) else (if x1 = (1 : Int32) then (((M 1 1), M)) else (if x1 = (2 : Int32) then (((M 1 2), M)) else (if x1 = (3 : Int32) then (((fv_X2_clerksOnDuty 1 M), M)) else (if x1 = (4 : Int32) then (((fv_X2_freeClerks 1 M), M)) else (if x1 = (5 : Int32) then ((((fv_X5_total M) 82 1), (fv_X5_total M))) else (if x1 = (6 : Int32) then ((((fv_X5_total M) 82 3), (fv_X5_total M))) else (if x1 = (7 : Int32) then ((((fv_X5_total M) 82 5), (fv_X5_total M))) else (if x1 = (8 : Int32) then ((((fv_X5_total M) 82 6), (fv_X5_total M))) else (if x1 = (9 : Int32) then ((((fv_X5_total M) 82 10), (fv_X5_total M))) else (if x1 = (10 : Int32) then (((fv_X2_stationsCounted 1 (1 : Int32) M), M)) else (if x1 = (11 : Int32) then (((fv_X2_stationsCounted 1 (0 : Int32) M), M)) else (if x1 = (12 : Int32) then ((((fv_X5_total M) 82 4), (fv_X5_total M))) else (if x1 = (13 : Int32) then (((fv_X2_hoursWorked 1 M), M)) else (if x1 = (14 : Int32) then (((M 84 1), M)) else (if x1 = (15 : Int32) then (((M 194 2), M)) else (((-2 : Int32), M)))))))))))))))))
def ok_X5_count (x1 : Int32) (M : ps_M) : Prop := (x1 = (0 : Int32) → True) ∧ (¬ (x1 = (0 : Int32)) → ((x1 = (1 : Int32) → True) ∧ (¬ (x1 = (1 : Int32)) → ((x1 = (2 : Int32) → True) ∧ (¬ (x1 = (2 : Int32)) → ((x1 = (3 : Int32) → ((ok_X2_clerksOnDuty 1 M) ∧ True)) ∧ (¬ (x1 = (3 : Int32)) → ((x1 = (4 : Int32) → ((ok_X2_freeClerks 1 M) ∧ True)) ∧ (¬ (x1 = (4 : Int32)) → ((x1 = (5 : Int32) → ((ok_X5_total M) ∧ True)) ∧ (¬ (x1 = (5 : Int32)) → ((x1 = (6 : Int32) → ((ok_X5_total M) ∧ True)) ∧ (¬ (x1 = (6 : Int32)) → ((x1 = (7 : Int32) → ((ok_X5_total M) ∧ True)) ∧ (¬ (x1 = (7 : Int32)) → ((x1 = (8 : Int32) → ((ok_X5_total M) ∧ True)) ∧ (¬ (x1 = (8 : Int32)) → ((x1 = (9 : Int32) → ((ok_X5_total M) ∧ True)) ∧ (¬ (x1 = (9 : Int32)) → ((x1 = (10 : Int32) → ((ok_X2_stationsCounted 1 (1 : Int32) M) ∧ True)) ∧ (¬ (x1 = (10 : Int32)) → ((x1 = (11 : Int32) → ((ok_X2_stationsCounted 1 (0 : Int32) M) ∧ True)) ∧ (¬ (x1 = (11 : Int32)) → ((x1 = (12 : Int32) → ((ok_X5_total M) ∧ True)) ∧ (¬ (x1 = (12 : Int32)) → ((x1 = (13 : Int32) → ((ok_X2_hoursWorked 1 M) ∧ True)) ∧ (¬ (x1 = (13 : Int32)) → ((x1 = (14 : Int32) → True) ∧ (¬ (x1 = (14 : Int32)) → ((x1 = (15 : Int32) → True) ∧ (¬ (x1 = (15 : Int32)) → True)))))))))))))))))))))))))))))))
set_option maxRecDepth 100000 in
set_option maxHeartbeats 4000000 in
theorem bw_X5_count {E : ps_E} {X : ps_X (Int32 × ps_M)} (C : ps_C (ps_Yc E) X cX5_count RX5 (some .int) 3 62 2) (RT : ps_RI (ps_Yc E) X cX5_count .int) (x1 : Int32) (M : ps_M) (hk : ok_X5_count x1 M) : ps_G (ps_Yc E) X (fv_X5_count x1 M) 0 [(0, .ref (ps_ad E 0)), (1, .int x1)] [] M := by
  unfold fv_X5_count
  unfold ok_X5_count at hk
  refine gw_iload_n C 1 dX5_count_0 1 rfl rfl ?_
  refine gw_case C (0 : Int32) (fun c1_0 => ?_) (fun c1_0 => ?_)
  · refine gw_tin C 80 (0) (79) c1_0 (by decide) dX5_count_1 (by decide) (by decide) (by decide +kernel) (by decide) ?_
    refine gw_aload_n C 81 dX5_count_80 0 rfl rfl ?_
    refine gf_X5_12 C 84 dX5_count_81 rfl ?_
    refine gf_X5_107 C 87 dX5_count_84 rfl kd_1 ?_
    exact RT _ _ _ _ dX5_count_87 rfl
  refine gw_case C (1 : Int32) (fun c1_1 => ?_) (fun c1_1 => ?_)
  · refine gw_tin C 88 (1) (87) c1_1 (by decide) dX5_count_1 (by decide) (by decide) (by decide +kernel) (by decide) ?_
    refine gw_aload_n C 89 dX5_count_88 0 rfl rfl ?_
    refine gf_X5_12 C 92 dX5_count_89 rfl ?_
    refine gf_X5_43 C 95 dX5_count_92 rfl kd_1 ?_
    exact RT _ _ _ _ dX5_count_95 rfl
  refine gw_case C (2 : Int32) (fun c1_2 => ?_) (fun c1_2 => ?_)
  · refine gw_tin C 96 (2) (95) c1_2 (by decide) dX5_count_1 (by decide) (by decide) (by decide +kernel) (by decide) ?_
    refine gw_aload_n C 97 dX5_count_96 0 rfl rfl ?_
    refine gf_X5_12 C 100 dX5_count_97 rfl ?_
    refine gf_X5_55 C 103 dX5_count_100 rfl kd_1 ?_
    exact RT _ _ _ _ dX5_count_103 rfl
  refine gw_case C (3 : Int32) (fun c1_3 => ?_) (fun c1_3 => ?_)
  · refine gw_tin C 104 (3) (103) c1_3 (by decide) dX5_count_1 (by decide) (by decide) (by decide +kernel) (by decide) ?_
    refine gw_aload_n C 105 dX5_count_104 0 rfl rfl ?_
    refine gf_X5_12 C 108 dX5_count_105 rfl ?_
    refine gw_cVp C 111 dX5_count_108 rfl yv_X2_clerksOnDuty lk_X5_231 [] [] rfl (ct_X2_clerksOnDuty (E := E) (l := ps_l X) 1 kd_1 M ((((hk.2 c1_0).2 c1_1).2 c1_2).1 c1_3).1) (rc_D kd_1) rfl (Nat.le_of_ble_eq_true rfl) (Nat.le_of_ble_eq_true rfl) (Nat.le_of_ble_eq_true rfl) ?_
    exact RT _ _ _ _ dX5_count_111 rfl
  refine gw_case C (4 : Int32) (fun c1_4 => ?_) (fun c1_4 => ?_)
  · refine gw_tin C 112 (4) (111) c1_4 (by decide) dX5_count_1 (by decide) (by decide) (by decide +kernel) (by decide) ?_
    refine gw_aload_n C 113 dX5_count_112 0 rfl rfl ?_
    refine gf_X5_12 C 116 dX5_count_113 rfl ?_
    refine gw_cVp C 119 dX5_count_116 rfl yv_X2_freeClerks lk_X5_234 [] [] rfl (ct_X2_freeClerks (E := E) (l := ps_l X) 1 kd_1 M (((((hk.2 c1_0).2 c1_1).2 c1_2).2 c1_3).1 c1_4).1) (rc_D kd_1) rfl (Nat.le_of_ble_eq_true rfl) (Nat.le_of_ble_eq_true rfl) (Nat.le_of_ble_eq_true rfl) ?_
    exact RT _ _ _ _ dX5_count_119 rfl
  refine gw_case C (5 : Int32) (fun c1_5 => ?_) (fun c1_5 => ?_)
  · refine gw_tin C 120 (5) (119) c1_5 (by decide) dX5_count_1 (by decide) (by decide) (by decide +kernel) (by decide) ?_
    refine gw_aload_n C 121 dX5_count_120 0 rfl rfl ?_
    refine gw_cVq C 124 dX5_count_121 rfl yv_X5_total lk_X5_237 [] [] rfl (ct_X5_total (E := E) (l := ps_l X) M ((((((hk.2 c1_0).2 c1_1).2 c1_2).2 c1_3).2 c1_4).1 c1_5).1) rc_P rfl (Nat.le_of_ble_eq_true rfl) (Nat.le_of_ble_eq_true rfl) (Nat.le_of_ble_eq_true rfl) ?_
    refine gf_X5_135 C 127 dX5_count_124 rfl kd_82 ?_
    exact RT _ _ _ _ dX5_count_127 rfl
  refine gw_case C (6 : Int32) (fun c1_6 => ?_) (fun c1_6 => ?_)
  · refine gw_tin C 128 (6) (127) c1_6 (by decide) dX5_count_1 (by decide) (by decide) (by decide +kernel) (by decide) ?_
    refine gw_aload_n C 129 dX5_count_128 0 rfl rfl ?_
    refine gw_cVq C 132 dX5_count_129 rfl yv_X5_total lk_X5_237 [] [] rfl (ct_X5_total (E := E) (l := ps_l X) M (((((((hk.2 c1_0).2 c1_1).2 c1_2).2 c1_3).2 c1_4).2 c1_5).1 c1_6).1) rc_P rfl (Nat.le_of_ble_eq_true rfl) (Nat.le_of_ble_eq_true rfl) (Nat.le_of_ble_eq_true rfl) ?_
    refine gf_X5_186 C 135 dX5_count_132 rfl kd_82 ?_
    exact RT _ _ _ _ dX5_count_135 rfl
  refine gw_case C (7 : Int32) (fun c1_7 => ?_) (fun c1_7 => ?_)
  · refine gw_tin C 136 (7) (135) c1_7 (by decide) dX5_count_1 (by decide) (by decide) (by decide +kernel) (by decide) ?_
    refine gw_aload_n C 137 dX5_count_136 0 rfl rfl ?_
    refine gw_cVq C 140 dX5_count_137 rfl yv_X5_total lk_X5_237 [] [] rfl (ct_X5_total (E := E) (l := ps_l X) M ((((((((hk.2 c1_0).2 c1_1).2 c1_2).2 c1_3).2 c1_4).2 c1_5).2 c1_6).1 c1_7).1) rc_P rfl (Nat.le_of_ble_eq_true rfl) (Nat.le_of_ble_eq_true rfl) (Nat.le_of_ble_eq_true rfl) ?_
    refine gf_X5_116 C 143 dX5_count_140 rfl kd_82 ?_
    exact RT _ _ _ _ dX5_count_143 rfl
  refine gw_case C (8 : Int32) (fun c1_8 => ?_) (fun c1_8 => ?_)
  · refine gw_tin C 144 (8) (143) c1_8 (by decide) dX5_count_1 (by decide) (by decide) (by decide +kernel) (by decide) ?_
    refine gw_aload_n C 145 dX5_count_144 0 rfl rfl ?_
    refine gw_cVq C 148 dX5_count_145 rfl yv_X5_total lk_X5_237 [] [] rfl (ct_X5_total (E := E) (l := ps_l X) M (((((((((hk.2 c1_0).2 c1_1).2 c1_2).2 c1_3).2 c1_4).2 c1_5).2 c1_6).2 c1_7).1 c1_8).1) rc_P rfl (Nat.le_of_ble_eq_true rfl) (Nat.le_of_ble_eq_true rfl) (Nat.le_of_ble_eq_true rfl) ?_
    refine gf_X5_125 C 151 dX5_count_148 rfl kd_82 ?_
    exact RT _ _ _ _ dX5_count_151 rfl
  refine gw_case C (9 : Int32) (fun c1_9 => ?_) (fun c1_9 => ?_)
  · refine gw_tin C 152 (9) (151) c1_9 (by decide) dX5_count_1 (by decide) (by decide) (by decide +kernel) (by decide) ?_
    refine gw_aload_n C 153 dX5_count_152 0 rfl rfl ?_
    refine gw_cVq C 156 dX5_count_153 rfl yv_X5_total lk_X5_237 [] [] rfl (ct_X5_total (E := E) (l := ps_l X) M ((((((((((hk.2 c1_0).2 c1_1).2 c1_2).2 c1_3).2 c1_4).2 c1_5).2 c1_6).2 c1_7).2 c1_8).1 c1_9).1) rc_P rfl (Nat.le_of_ble_eq_true rfl) (Nat.le_of_ble_eq_true rfl) (Nat.le_of_ble_eq_true rfl) ?_
    refine gf_X5_119 C 159 dX5_count_156 rfl kd_82 ?_
    exact RT _ _ _ _ dX5_count_159 rfl
  refine gw_case C (10 : Int32) (fun c1_10 => ?_) (fun c1_10 => ?_)
  · refine gw_tin C 160 (10) (159) c1_10 (by decide) dX5_count_1 (by decide) (by decide) (by decide +kernel) (by decide) ?_
    refine gw_aload_n C 161 dX5_count_160 0 rfl rfl ?_
    refine gf_X5_12 C 164 dX5_count_161 rfl ?_
    refine gw_iconst C 165 dX5_count_164 (v := 1) (by decide) rfl ?_
    refine gw_cVp C 168 dX5_count_165 rfl yv_X2_stationsCounted lk_X5_240 [.int (1 : Int32)] [] rfl (ct_X2_stationsCounted (E := E) (l := ps_l X) 1 (1 : Int32) kd_1 M (((((((((((hk.2 c1_0).2 c1_1).2 c1_2).2 c1_3).2 c1_4).2 c1_5).2 c1_6).2 c1_7).2 c1_8).2 c1_9).1 c1_10).1) (rc_D kd_1) rfl (Nat.le_of_ble_eq_true rfl) (Nat.le_of_ble_eq_true rfl) (Nat.le_of_ble_eq_true rfl) ?_
    exact RT _ _ _ _ dX5_count_168 rfl
  refine gw_case C (11 : Int32) (fun c1_11 => ?_) (fun c1_11 => ?_)
  · refine gw_tin C 169 (11) (168) c1_11 (by decide) dX5_count_1 (by decide) (by decide) (by decide +kernel) (by decide) ?_
    refine gw_aload_n C 170 dX5_count_169 0 rfl rfl ?_
    refine gf_X5_12 C 173 dX5_count_170 rfl ?_
    refine gw_iconst C 174 dX5_count_173 (v := 0) (by decide) rfl ?_
    refine gw_cVp C 177 dX5_count_174 rfl yv_X2_stationsCounted lk_X5_240 [.int (0 : Int32)] [] rfl (ct_X2_stationsCounted (E := E) (l := ps_l X) 1 (0 : Int32) kd_1 M ((((((((((((hk.2 c1_0).2 c1_1).2 c1_2).2 c1_3).2 c1_4).2 c1_5).2 c1_6).2 c1_7).2 c1_8).2 c1_9).2 c1_10).1 c1_11).1) (rc_D kd_1) rfl (Nat.le_of_ble_eq_true rfl) (Nat.le_of_ble_eq_true rfl) (Nat.le_of_ble_eq_true rfl) ?_
    exact RT _ _ _ _ dX5_count_177 rfl
  refine gw_case C (12 : Int32) (fun c1_12 => ?_) (fun c1_12 => ?_)
  · refine gw_tin C 178 (12) (177) c1_12 (by decide) dX5_count_1 (by decide) (by decide) (by decide +kernel) (by decide) ?_
    refine gw_aload_n C 179 dX5_count_178 0 rfl rfl ?_
    refine gw_cVq C 182 dX5_count_179 rfl yv_X5_total lk_X5_237 [] [] rfl (ct_X5_total (E := E) (l := ps_l X) M (((((((((((((hk.2 c1_0).2 c1_1).2 c1_2).2 c1_3).2 c1_4).2 c1_5).2 c1_6).2 c1_7).2 c1_8).2 c1_9).2 c1_10).2 c1_11).1 c1_12).1) rc_P rfl (Nat.le_of_ble_eq_true rfl) (Nat.le_of_ble_eq_true rfl) (Nat.le_of_ble_eq_true rfl) ?_
    refine gf_X5_189 C 185 dX5_count_182 rfl kd_82 ?_
    exact RT _ _ _ _ dX5_count_185 rfl
  refine gw_case C (13 : Int32) (fun c1_13 => ?_) (fun c1_13 => ?_)
  · refine gw_tin C 186 (13) (185) c1_13 (by decide) dX5_count_1 (by decide) (by decide) (by decide +kernel) (by decide) ?_
    refine gw_aload_n C 187 dX5_count_186 0 rfl rfl ?_
    refine gf_X5_12 C 190 dX5_count_187 rfl ?_
    refine gw_cVp C 193 dX5_count_190 rfl yv_X2_hoursWorked lk_X5_244 [] [] rfl (ct_X2_hoursWorked (E := E) (l := ps_l X) 1 kd_1 M ((((((((((((((hk.2 c1_0).2 c1_1).2 c1_2).2 c1_3).2 c1_4).2 c1_5).2 c1_6).2 c1_7).2 c1_8).2 c1_9).2 c1_10).2 c1_11).2 c1_12).1 c1_13).1) (rc_D kd_1) rfl (Nat.le_of_ble_eq_true rfl) (Nat.le_of_ble_eq_true rfl) (Nat.le_of_ble_eq_true rfl) ?_
    exact RT _ _ _ _ dX5_count_193 rfl
  refine gw_case C (14 : Int32) (fun c1_14 => ?_) (fun c1_14 => ?_)
  · refine gw_tin C 194 (14) (193) c1_14 (by decide) dX5_count_1 (by decide) (by decide) (by decide +kernel) (by decide) ?_
    refine gw_aload_n C 195 dX5_count_194 0 rfl rfl ?_
    refine gf_X5_32 C 198 dX5_count_195 rfl ?_
    refine gf_X5_170 C 201 dX5_count_198 rfl ?_
    exact RT _ _ _ _ dX5_count_201 rfl
  refine gw_case C (15 : Int32) (fun c1_15 => ?_) (fun c1_15 => ?_)
  · refine gw_tin C 202 (15) (201) c1_15 (by decide) dX5_count_1 (by decide) (by decide) (by decide +kernel) (by decide) ?_
    refine gw_aload_n C 203 dX5_count_202 0 rfl rfl ?_
    refine gf_X5_39 C 206 dX5_count_203 rfl ?_
    refine gf_X5_144 C 209 dX5_count_206 rfl ?_
    exact RT _ _ _ _ dX5_count_209 rfl
  refine gw_tout C 210 dX5_count_1 (by have e0 := ps_ne_int c1_0 (z := 0) (by decide); have e1 := ps_ne_int c1_1 (z := 1) (by decide); have e2 := ps_ne_int c1_2 (z := 2) (by decide); have e3 := ps_ne_int c1_3 (z := 3) (by decide); have e4 := ps_ne_int c1_4 (z := 4) (by decide); have e5 := ps_ne_int c1_5 (z := 5) (by decide); have e6 := ps_ne_int c1_6 (z := 6) (by decide); have e7 := ps_ne_int c1_7 (z := 7) (by decide); have e8 := ps_ne_int c1_8 (z := 8) (by decide); have e9 := ps_ne_int c1_9 (z := 9) (by decide); have e10 := ps_ne_int c1_10 (z := 10) (by decide); have e11 := ps_ne_int c1_11 (z := 11) (by decide); have e12 := ps_ne_int c1_12 (z := 12) (by decide); have e13 := ps_ne_int c1_13 (z := 13) (by decide); have e14 := ps_ne_int c1_14 (z := 14) (by decide); have e15 := ps_ne_int c1_15 (z := 15) (by decide); omega) (by decide) ?_
  refine gw_bipush C 212 dX5_count_210 (v := (-2)) (by decide) rfl ?_
  exact RT _ _ _ _ dX5_count_212 rfl
theorem ct_X5_count {E : ps_E} {l : Launch} (x1 : Int32)  (M : ps_M) (hk : ok_X5_count x1 M) : ps_CI (ps_Yc E) l yX5_count cX5_count 2 (some .int) 3 62 [.ref (ps_ad E 0), .int x1] M (fv_X5_count x1 M) := ps_metI RX5 (by decide) rfl (Nat.le_of_ble_eq_true rfl) rfl (fun X _ C RT => bw_X5_count C RT x1 M hk)
