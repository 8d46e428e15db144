def fv_X3_dropOldest_9 : Nat → Nat → Int32 → ps_M → ps_M
  | 0, _, _, M => M
  | n + 1, k1, x2, M => if (4 : Int32) ≤ x2 then ((ps_st (ps_st M 85 ((3 : Int32)).toNatClampNeg (nI k1)) 84 1 (3 : Int32))) else (fv_X3_dropOldest_9 n k1 (x2 + (1 : Int32)) (ps_st M 85 ((x2 - (1 : Int32))).toNatClampNeg (nI (((M 85 (x2).toNatClampNeg)).toNatClampNeg))))
theorem fv_X3_dropOldest_9_s (n : Nat) (k1 : Nat) (x2 : Int32) (M : ps_M) : fv_X3_dropOldest_9 (n + 1) k1 x2 M = (if (4 : Int32) ≤ x2 then ((ps_st (ps_st M 85 ((3 : Int32)).toNatClampNeg (nI k1)) 84 1 (3 : Int32))) else (fv_X3_dropOldest_9 n k1 (x2 + (1 : Int32)) (ps_st M 85 ((x2 - (1 : Int32))).toNatClampNeg (nI (((M 85 (x2).toNatClampNeg)).toNatClampNeg))))) := rfl
def ok_X3_dropOldest_9 : Nat → Nat → Int32 → ps_M → Prop
  | 0, _, _, _ => False
  | n + 1, k1, x2, M => ((4 : Int32) ≤ x2 → ((vp_in (3 : Int32) 4) ∧ True)) ∧ (¬ ((4 : Int32) ≤ x2) → ((vp_in x2 4) ∧ ((ps_kd (((M 85 (x2).toNatClampNeg)).toNatClampNeg) = 2) ∧ ((vp_in (x2 - (1 : Int32)) 4) ∧ (ok_X3_dropOldest_9 n k1 (x2 + (1 : Int32)) (ps_st M 85 ((x2 - (1 : Int32))).toNatClampNeg (nI (((M 85 (x2).toNatClampNeg)).toNatClampNeg))))))))
theorem ok_X3_dropOldest_9_s (n : Nat) (k1 : Nat) (x2 : Int32) (M : ps_M) : ok_X3_dropOldest_9 (n + 1) k1 x2 M = (((4 : Int32) ≤ x2 → ((vp_in (3 : Int32) 4) ∧ True)) ∧ (¬ ((4 : Int32) ≤ x2) → ((vp_in x2 4) ∧ ((ps_kd (((M 85 (x2).toNatClampNeg)).toNatClampNeg) = 2) ∧ ((vp_in (x2 - (1 : Int32)) 4) ∧ (ok_X3_dropOldest_9 n k1 (x2 + (1 : Int32)) (ps_st M 85 ((x2 - (1 : Int32))).toNatClampNeg (nI (((M 85 (x2).toNatClampNeg)).toNatClampNeg))))))))) := rfl
set_option maxRecDepth 100000 in
set_option maxHeartbeats 4000000 in
theorem bw_X3_dropOldest_9 {E : ps_E} {X : ps_X ps_M} (C : ps_C (ps_Yc E) X cX3_dropOldest RX3 none 0 0 3) (RT : ps_RV (ps_Yc E) X cX3_dropOldest) : ∀ (n : Nat) (k1 : Nat) (x2 : Int32) (hk1 : ps_kd k1 = 2) (M : ps_M), ok_X3_dropOldest_9 n k1 x2 M → ps_G (ps_Yc E) X (fv_X3_dropOldest_9 n k1 x2 M) 9 [(0, .ref (ps_ad E 84)), (1, .ref (ps_ad E k1)), (2, .int x2)] [] M := by
  intro n
  induction n with
  | zero => intro k1 x2 hk1 M h; exact h.elim
  | succ n ih =>
    intro k1 x2 hk1 M hk
    rw [fv_X3_dropOldest_9_s]
    rw [ok_X3_dropOldest_9_s] at hk
    refine gw_iload_n C 10 dX3_dropOldest_9 2 rfl rfl ?_
    refine gw_iconst C 11 dX3_dropOldest_10 (v := 4) (by decide) rfl ?_
    refine gw_ic_ge C 34 14 dX3_dropOldest_11 (by decide) rfl (fun c11 => ?_) (fun c11 => ?_)
    · refine gw_aload_n C 35 dX3_dropOldest_34 0 rfl rfl ?_
      refine gf_X3_11 C 38 dX3_dropOldest_35 rfl ?_
      refine gw_iconst C 39 dX3_dropOldest_38 (v := 3) (by decide) rfl ?_
      refine gw_aload_n C 40 dX3_dropOldest_39 1 rfl rfl ?_
      refine gw_asD C 41 dX3_dropOldest_40 rfl kd_85 hk1 (hk.1 c11).1 ?_
      refine gw_aload_n C 42 dX3_dropOldest_41 0 rfl rfl ?_
      refine gw_iconst C 43 dX3_dropOldest_42 (v := 3) (by decide) rfl ?_
      refine pf_X3_18 C 46 dX3_dropOldest_43 rfl ?_
      exact RT _ _ _ dX3_dropOldest_46
    · refine gw_aload_n C 15 dX3_dropOldest_14 0 rfl rfl ?_
      refine gf_X3_11 C 18 dX3_dropOldest_15 rfl ?_
      refine gw_iload_n C 19 dX3_dropOldest_18 2 rfl rfl ?_
      refine gw_iconst C 20 dX3_dropOldest_19 (v := 1) (by decide) rfl ?_
      refine gw_isub C 21 dX3_dropOldest_20 rfl ?_
      refine gw_aload_n C 22 dX3_dropOldest_21 0 rfl rfl ?_
      refine gf_X3_11 C 25 dX3_dropOldest_22 rfl ?_
      refine gw_iload_n C 26 dX3_dropOldest_25 2 rfl rfl ?_
      refine gw_alD C 27 dX3_dropOldest_26 rfl kd_85 (hk.2 c11).1 ?_
      refine gw_asD C 28 dX3_dropOldest_27 rfl kd_85 (hk.2 c11).2.1 (hk.2 c11).2.2.1 ?_
      refine gw_iinc C 31 dX3_dropOldest_28 rfl (y := 1) (by decide) rfl 2 rfl [(0, .ref (ps_ad E 84)), (1, .ref (ps_ad E k1)), (2, .int (x2 + (1 : Int32)))] [1, 2, 0] (by decide) rfl ?_
      refine gw_goto C 9 dX3_dropOldest_31 (by decide) ?_
      exact ih k1 (x2 + (1 : Int32)) hk1 (ps_st M 85 ((x2 - (1 : Int32))).toNatClampNeg (nI (((M 85 (x2).toNatClampNeg)).toNatClampNeg))) (hk.2 c11).2.2.2
def fv_X3_dropOldest  (M : ps_M) : ps_M := fv_X3_dropOldest_9 ps_FU (((M 85 ((0 : Int32)).toNatClampNeg)).toNatClampNeg) (1 : Int32) M
def ok_X3_dropOldest  (M : ps_M) : Prop := (vp_in (0 : Int32) 4) ∧ ((ps_kd (((M 85 ((0 : Int32)).toNatClampNeg)).toNatClampNeg) = 2) ∧ (ok_X3_dropOldest_9 ps_FU (((M 85 ((0 : Int32)).toNatClampNeg)).toNatClampNeg) (1 : Int32) M))
set_option maxRecDepth 100000 in
set_option maxHeartbeats 4000000 in
theorem bw_X3_dropOldest {E : ps_E} {X : ps_X ps_M} (C : ps_C (ps_Yc E) X cX3_dropOldest RX3 none 0 0 3) (RT : ps_RV (ps_Yc E) X cX3_dropOldest)  (M : ps_M) (hk : ok_X3_dropOldest  M) : ps_G (ps_Yc E) X (fv_X3_dropOldest  M) 0 [(0, .ref (ps_ad E 84))] [] M := by
  unfold fv_X3_dropOldest
  unfold ok_X3_dropOldest at hk
  refine gw_aload_n C 1 dX3_dropOldest_0 0 rfl rfl ?_
  refine gf_X3_11 C 4 dX3_dropOldest_1 rfl ?_
  refine gw_iconst C 5 dX3_dropOldest_4 (v := 0) (by decide) rfl ?_
  refine gw_alD C 6 dX3_dropOldest_5 rfl kd_85 hk.1 ?_
  refine gw_astore_n C 7 dX3_dropOldest_6 rfl [(0, .ref (ps_ad E 84)), (1, .ref (ps_ad E (((M 85 ((0 : Int32)).toNatClampNeg)).toNatClampNeg)))] [1, 0] (by decide) rfl ?_
  refine gw_iconst C 8 dX3_dropOldest_7 (v := 1) (by decide) rfl ?_
  refine gw_istore_n C 9 dX3_dropOldest_8 rfl [(0, .ref (ps_ad E 84)), (1, .ref (ps_ad E (((M 85 ((0 : Int32)).toNatClampNeg)).toNatClampNeg))), (2, .int (1 : Int32))] [1, 2, 0] (by decide) rfl ?_
  exact bw_X3_dropOldest_9 C RT  ps_FU (((M 85 ((0 : Int32)).toNatClampNeg)).toNatClampNeg) (1 : Int32) hk.2.1 M hk.2.2
theorem ct_X3_dropOldest {E : ps_E} {l : Launch}   (M : ps_M) (hk : ok_X3_dropOldest  M) : ps_CV (ps_Yc E) l yX3_dropOldest cX3_dropOldest 3 0 0 [.ref (ps_ad E 84)] M (fv_X3_dropOldest  M) := ps_metV RX3 (by decide) rfl (Nat.le_of_ble_eq_true rfl) rfl (fun X _ C RT => bw_X3_dropOldest C RT M hk)
def fv_X3_remember_12 (k1 : Nat) (M : ps_M) : ps_M := (ps_st (fv_X2_copyFrom (((M 85 ((M 84 1)).toNatClampNeg)).toNatClampNeg) k1 M) 84 1 (((fv_X2_copyFrom (((M 85 ((M 84 1)).toNatClampNeg)).toNatClampNeg) k1 M) 84 1) + (1 : Int32)))
def ok_X3_remember_12 (k1 : Nat) (M : ps_M) : Prop := (vp_in (M 84 1) 4) ∧ ((ps_kd (((M 85 ((M 84 1)).toNatClampNeg)).toNatClampNeg) = 2) ∧ ((ok_X2_copyFrom (((M 85 ((M 84 1)).toNatClampNeg)).toNatClampNeg) k1 M) ∧ True))
set_option maxRecDepth 100000 in
set_option maxHeartbeats 4000000 in
theorem bw_X3_remember_12 {E : ps_E} {X : ps_X ps_M} (C : ps_C (ps_Yc E) X cX3_remember RX3 none 3 61 2) (RT : ps_RV (ps_Yc E) X cX3_remember) (k1 : Nat) (hk1 : ps_kd k1 = 2) (M : ps_M) (hk : ok_X3_remember_12 k1 M) : ps_G (ps_Yc E) X (fv_X3_remember_12 k1 M) 12 [(0, .ref (ps_ad E 84)), (1, .ref (ps_ad E k1))] [] M := by
  unfold fv_X3_remember_12
  unfold ok_X3_remember_12 at hk
  refine gw_aload_n C 13 dX3_remember_12 0 rfl rfl ?_
  refine gf_X3_11 C 16 dX3_remember_13 rfl ?_
  refine gw_aload_n C 17 dX3_remember_16 0 rfl rfl ?_
  refine gf_X3_18 C 20 dX3_remember_17 rfl ?_
  refine gw_alD C 21 dX3_remember_20 rfl kd_85 hk.1 ?_
  refine gw_aload_n C 22 dX3_remember_21 1 rfl rfl ?_
  refine gw_cVv C 25 dX3_remember_22 rfl yv_X2_copyFrom lk_X3_25 [.ref (ps_ad E k1)] [] rfl (ct_X2_copyFrom (E := E) (l := ps_l X) (((M 85 ((M 84 1)).toNatClampNeg)).toNatClampNeg) k1 hk.2.1 hk1 M hk.2.2.1) (rc_D hk.2.1) rfl (Nat.le_of_ble_eq_true rfl) (Nat.le_of_ble_eq_true rfl) (Nat.le_of_ble_eq_true rfl) ?_
  refine gw_aload_n C 26 dX3_remember_25 0 rfl rfl ?_
  refine gw_dup C 27 dX3_remember_26 rfl rfl ?_
  refine gf_X3_18 C 30 dX3_remember_27 rfl ?_
  refine gw_iconst C 31 dX3_remember_30 (v := 1) (by decide) rfl ?_
  refine gw_iadd C 32 dX3_remember_31 rfl ?_
  refine pf_X3_18 C 35 dX3_remember_32 rfl ?_
  exact RT _ _ _ dX3_remember_35
def fv_X3_remember (k1 : Nat) (M : ps_M) : ps_M := if (M 84 1) < (4 : Int32) then (fv_X3_remember_12 k1 M) else (fv_X3_remember_12 k1 (fv_X3_dropOldest M))
def ok_X3_remember (k1 : Nat) (M : ps_M) : Prop := ((M 84 1) < (4 : Int32) → (ok_X3_remember_12 k1 M)) ∧ (¬ ((M 84 1) < (4 : Int32)) → ((ok_X3_dropOldest M) ∧ (ok_X3_remember_12 k1 (fv_X3_dropOldest M))))
set_option maxRecDepth 100000 in
set_option maxHeartbeats 4000000 in
theorem bw_X3_remember {E : ps_E} {X : ps_X ps_M} (C : ps_C (ps_Yc E) X cX3_remember RX3 none 3 61 2) (RT : ps_RV (ps_Yc E) X cX3_remember) (k1 : Nat) (hk1 : ps_kd k1 = 2) (M : ps_M) (hk : ok_X3_remember k1 M) : ps_G (ps_Yc E) X (fv_X3_remember k1 M) 0 [(0, .ref (ps_ad E 84)), (1, .ref (ps_ad E k1))] [] M := by
  unfold fv_X3_remember
  unfold ok_X3_remember at hk
  refine gw_aload_n C 1 dX3_remember_0 0 rfl rfl ?_
  refine gf_X3_18 C 4 dX3_remember_1 rfl ?_
  refine gw_iconst C 5 dX3_remember_4 (v := 4) (by decide) rfl ?_
  refine gw_ic_lt C 12 8 dX3_remember_5 (by decide) rfl (fun c5 => ?_) (fun c5 => ?_)
  · exact bw_X3_remember_12 C RT  k1 hk1 M (hk.1 c5)
  · refine gw_aload_n C 9 dX3_remember_8 0 rfl rfl ?_
    refine gw_cVv C 12 dX3_remember_9 rfl yv_X3_dropOldest lk_X3_22 [] [] rfl (ct_X3_dropOldest (E := E) (l := ps_l X) M (hk.2 c5).1) rc_H rfl (Nat.le_of_ble_eq_true rfl) (Nat.le_of_ble_eq_true rfl) (Nat.le_of_ble_eq_true rfl) ?_
    exact bw_X3_remember_12 C RT  k1 hk1 (fv_X3_dropOldest M) (hk.2 c5).2
theorem ct_X3_remember {E : ps_E} {l : Launch} (k1 : Nat) (hk1 : ps_kd k1 = 2) (M : ps_M) (hk : ok_X3_remember k1 M) : ps_CV (ps_Yc E) l yX3_remember cX3_remember 2 3 61 [.ref (ps_ad E 84), .ref (ps_ad E k1)] M (fv_X3_remember k1 M) := ps_metV RX3 (by decide) rfl (Nat.le_of_ble_eq_true rfl) rfl (fun X _ C RT => bw_X3_remember C RT k1 hk1 M hk)
def fv_X3_takeBackInto (k1 : Nat) (M : ps_M) : ps_M := if (M 84 1) ≤ 0 then M else ((fv_X2_copyFrom k1 ((((ps_st M 84 1 ((M 84 1) - (1 : Int32))) 85 (((ps_st M 84 1 ((M 84 1) - (1 : Int32))) 84 1)).toNatClampNeg)).toNatClampNeg) (ps_st M 84 1 ((M 84 1) - (1 : Int32)))))
def ok_X3_takeBackInto (k1 : Nat) (M : ps_M) : Prop := ((M 84 1) ≤ 0 → True) ∧ (¬ ((M 84 1) ≤ 0) → ((vp_in ((ps_st M 84 1 ((M 84 1) - (1 : Int32))) 84 1) 4) ∧ ((ps_kd ((((ps_st M 84 1 ((M 84 1) - (1 : Int32))) 85 (((ps_st M 84 1 ((M 84 1) - (1 : Int32))) 84 1)).toNatClampNeg)).toNatClampNeg) = 2) ∧ ((ok_X2_copyFrom k1 ((((ps_st M 84 1 ((M 84 1) - (1 : Int32))) 85 (((ps_st M 84 1 ((M 84 1) - (1 : Int32))) 84 1)).toNatClampNeg)).toNatClampNeg) (ps_st M 84 1 ((M 84 1) - (1 : Int32)))) ∧ True))))
set_option maxRecDepth 100000 in
set_option maxHeartbeats 4000000 in
theorem bw_X3_takeBackInto {E : ps_E} {X : ps_X ps_M} (C : ps_C (ps_Yc E) X cX3_takeBackInto RX3 none 3 61 2) (RT : ps_RV (ps_Yc E) X cX3_takeBackInto) (k1 : Nat) (hk1 : ps_kd k1 = 2) (M : ps_M) (hk : ok_X3_takeBackInto k1 M) : ps_G (ps_Yc E) X (fv_X3_takeBackInto k1 M) 0 [(0, .ref (ps_ad E 84)), (1, .ref (ps_ad E k1))] [] M := by
  unfold fv_X3_takeBackInto
  unfold ok_X3_takeBackInto at hk
  refine gw_aload_n C 1 dX3_takeBackInto_0 0 rfl rfl ?_
  refine gf_X3_18 C 4 dX3_takeBackInto_1 rfl ?_
  refine gw_if_le C 30 7 dX3_takeBackInto_4 (by decide) rfl (fun c4 => ?_) (fun c4 => ?_)
  · exact RT _ _ _ dX3_takeBackInto_30
  · refine gw_aload_n C 8 dX3_takeBackInto_7 0 rfl rfl ?_
    refine gw_dup C 9 dX3_takeBackInto_8 rfl rfl ?_
    refine gf_X3_18 C 12 dX3_takeBackInto_9 rfl ?_
    refine gw_iconst C 13 dX3_takeBackInto_12 (v := 1) (by decide) rfl ?_
    refine gw_isub C 14 dX3_takeBackInto_13 rfl ?_
    refine pf_X3_18 C 17 dX3_takeBackInto_14 rfl ?_
    refine gw_aload_n C 18 dX3_takeBackInto_17 1 rfl rfl ?_
    refine gw_aload_n C 19 dX3_takeBackInto_18 0 rfl rfl ?_
    refine gf_X3_11 C 22 dX3_takeBackInto_19 rfl ?_
    refine gw_aload_n C 23 dX3_takeBackInto_22 0 rfl rfl ?_
    refine gf_X3_18 C 26 dX3_takeBackInto_23 rfl ?_
    refine gw_alD C 27 dX3_takeBackInto_26 rfl kd_85 (hk.2 c4).1 ?_
    refine gw_cVv C 30 dX3_takeBackInto_27 rfl yv_X2_copyFrom lk_X3_25 [.ref (ps_ad E ((((ps_st M 84 1 ((M 84 1) - (1 : Int32))) 85 (((ps_st M 84 1 ((M 84 1) - (1 : Int32))) 84 1)).toNatClampNeg)).toNatClampNeg))] [] rfl (ct_X2_copyFrom (E := E) (l := ps_l X) k1 ((((ps_st M 84 1 ((M 84 1) - (1 : Int32))) 85 (((ps_st M 84 1 ((M 84 1) - (1 : Int32))) 84 1)).toNatClampNeg)).toNatClampNeg) hk1 ((hk.2 c4).2.1) (ps_st M 84 1 ((M 84 1) - (1 : Int32))) (hk.2 c4).2.2.1) (rc_D hk1) rfl (Nat.le_of_ble_eq_true rfl) (Nat.le_of_ble_eq_true rfl) (Nat.le_of_ble_eq_true rfl) ?_
    exact RT _ _ _ dX3_takeBackInto_30
theorem ct_X3_takeBackInto {E : ps_E} {l : Launch} (k1 : Nat) (hk1 : ps_kd k1 = 2) (M : ps_M) (hk : ok_X3_takeBackInto k1 M) : ps_CV (ps_Yc E) l yX3_takeBackInto cX3_takeBackInto 2 3 61 [.ref (ps_ad E 84), .ref (ps_ad E k1)] M (fv_X3_takeBackInto k1 M) := ps_metV RX3 (by decide) rfl (Nat.le_of_ble_eq_true rfl) rfl (fun X _ C RT => bw_X3_takeBackInto C RT k1 hk1 M hk)
