def fv_X4_copyFrom_95 (k0 : Nat) (k1 : Nat) (M : ps_M) : ps_M := (ps_st (ps_st M k0 11 (M k1 11)) k0 12 ((ps_st M k0 11 (M k1 11)) k1 12))
def ok_X4_copyFrom_95 (k0 : Nat) (k1 : Nat) (M : ps_M) : Prop := True
set_option maxRecDepth 100000 in
set_option maxHeartbeats 4000000 in
theorem bw_X4_copyFrom_95 {E : ps_E} {X : ps_X ps_M} (C : ps_C (ps_Yc E) X cX4_copyFrom RX4 none 1 18 2) (RT : ps_RV (ps_Yc E) X cX4_copyFrom) (k0 : Nat) (k1 : Nat) (hk0 : ps_kd k0 = 4) (hk1 : ps_kd k1 = 4) (M : ps_M) (hk : ok_X4_copyFrom_95 k0 k1 M) : ps_G (ps_Yc E) X (fv_X4_copyFrom_95 k0 k1 M) 95 [(0, .ref (ps_ad E k0)), (1, .ref (ps_ad E k1))] [] M := by
  unfold fv_X4_copyFrom_95
  unfold ok_X4_copyFrom_95 at hk
  refine gw_aload_n C 96 dX4_copyFrom_95 0 rfl rfl ?_
  refine gw_aload_n C 97 dX4_copyFrom_96 1 rfl rfl ?_
  refine gf_X4_52 C 100 dX4_copyFrom_97 rfl hk1 ?_
  refine pf_X4_52 C 103 dX4_copyFrom_100 rfl hk0 ?_
  refine gw_aload_n C 104 dX4_copyFrom_103 0 rfl rfl ?_
  refine gw_aload_n C 105 dX4_copyFrom_104 1 rfl rfl ?_
  refine gf_X4_55 C 108 dX4_copyFrom_105 rfl hk1 ?_
  refine pf_X4_55 C 111 dX4_copyFrom_108 rfl hk0 ?_
  exact RT _ _ _ dX4_copyFrom_111
def fv_X4_copyFrom_71 (k0 : Nat) (k1 : Nat) (M : ps_M) : ps_M := fv_X4_copyFrom_95 k0 k1 (ps_st (ps_st (ps_st M k0 8 (M k1 8)) k0 9 ((ps_st M k0 8 (M k1 8)) k1 9)) k0 10 ((ps_st (ps_st M k0 8 (M k1 8)) k0 9 ((ps_st M k0 8 (M k1 8)) k1 9)) k1 10))
def ok_X4_copyFrom_71 (k0 : Nat) (k1 : Nat) (M : ps_M) : Prop := ok_X4_copyFrom_95 k0 k1 (ps_st (ps_st (ps_st M k0 8 (M k1 8)) k0 9 ((ps_st M k0 8 (M k1 8)) k1 9)) k0 10 ((ps_st (ps_st M k0 8 (M k1 8)) k0 9 ((ps_st M k0 8 (M k1 8)) k1 9)) k1 10))
set_option maxRecDepth 100000 in
set_option maxHeartbeats 4000000 in
theorem bw_X4_copyFrom_71 {E : ps_E} {X : ps_X ps_M} (C : ps_C (ps_Yc E) X cX4_copyFrom RX4 none 1 18 2) (RT : ps_RV (ps_Yc E) X cX4_copyFrom) (k0 : Nat) (k1 : Nat) (hk0 : ps_kd k0 = 4) (hk1 : ps_kd k1 = 4) (M : ps_M) (hk : ok_X4_copyFrom_71 k0 k1 M) : ps_G (ps_Yc E) X (fv_X4_copyFrom_71 k0 k1 M) 71 [(0, .ref (ps_ad E k0)), (1, .ref (ps_ad E k1))] [] M := by
  unfold fv_X4_copyFrom_71
  unfold ok_X4_copyFrom_71 at hk
  refine gw_aload_n C 72 dX4_copyFrom_71 0 rfl rfl ?_
  refine gw_aload_n C 73 dX4_copyFrom_72 1 rfl rfl ?_
  refine gf_X4_43 C 76 dX4_copyFrom_73 rfl hk1 ?_
  refine pf_X4_43 C 79 dX4_copyFrom_76 rfl hk0 ?_
  refine gw_aload_n C 80 dX4_copyFrom_79 0 rfl rfl ?_
  refine gw_aload_n C 81 dX4_copyFrom_80 1 rfl rfl ?_
  refine gf_X4_46 C 84 dX4_copyFrom_81 rfl hk1 ?_
  refine pf_X4_46 C 87 dX4_copyFrom_84 rfl hk0 ?_
  refine gw_aload_n C 88 dX4_copyFrom_87 0 rfl rfl ?_
  refine gw_aload_n C 89 dX4_copyFrom_88 1 rfl rfl ?_
  refine gf_X4_49 C 92 dX4_copyFrom_89 rfl hk1 ?_
  refine pf_X4_49 C 95 dX4_copyFrom_92 rfl hk0 ?_
  exact bw_X4_copyFrom_95 C RT  k0 k1 hk0 hk1 (ps_st (ps_st (ps_st M k0 8 (M k1 8)) k0 9 ((ps_st M k0 8 (M k1 8)) k1 9)) k0 10 ((ps_st (ps_st M k0 8 (M k1 8)) k0 9 ((ps_st M k0 8 (M k1 8)) k1 9)) k1 10)) hk
def fv_X4_copyFrom_47 (k0 : Nat) (k1 : Nat) (M : ps_M) : ps_M := fv_X4_copyFrom_71 k0 k1 (ps_st (ps_st (ps_st M k0 5 (M k1 5)) k0 6 ((ps_st M k0 5 (M k1 5)) k1 6)) k0 7 ((ps_st (ps_st M k0 5 (M k1 5)) k0 6 ((ps_st M k0 5 (M k1 5)) k1 6)) k1 7))
def ok_X4_copyFrom_47 (k0 : Nat) (k1 : Nat) (M : ps_M) : Prop := ok_X4_copyFrom_71 k0 k1 (ps_st (ps_st (ps_st M k0 5 (M k1 5)) k0 6 ((ps_st M k0 5 (M k1 5)) k1 6)) k0 7 ((ps_st (ps_st M k0 5 (M k1 5)) k0 6 ((ps_st M k0 5 (M k1 5)) k1 6)) k1 7))
set_option maxRecDepth 100000 in
set_option maxHeartbeats 4000000 in
theorem bw_X4_copyFrom_47 {E : ps_E} {X : ps_X ps_M} (C : ps_C (ps_Yc E) X cX4_copyFrom RX4 none 1 18 2) (RT : ps_RV (ps_Yc E) X cX4_copyFrom) (k0 : Nat) (k1 : Nat) (hk0 : ps_kd k0 = 4) (hk1 : ps_kd k1 = 4) (M : ps_M) (hk : ok_X4_copyFrom_47 k0 k1 M) : ps_G (ps_Yc E) X (fv_X4_copyFrom_47 k0 k1 M) 47 [(0, .ref (ps_ad E k0)), (1, .ref (ps_ad E k1))] [] M := by
  unfold fv_X4_copyFrom_47
  unfold ok_X4_copyFrom_47 at hk
  refine gw_aload_n C 48 dX4_copyFrom_47 0 rfl rfl ?_
  refine gw_aload_n C 49 dX4_copyFrom_48 1 rfl rfl ?_
  refine gf_X4_34 C 52 dX4_copyFrom_49 rfl hk1 ?_
  refine pf_X4_34 C 55 dX4_copyFrom_52 rfl hk0 ?_
  refine gw_aload_n C 56 dX4_copyFrom_55 0 rfl rfl ?_
  refine gw_aload_n C 57 dX4_copyFrom_56 1 rfl rfl ?_
  refine gf_X4_37 C 60 dX4_copyFrom_57 rfl hk1 ?_
  refine pf_X4_37 C 63 dX4_copyFrom_60 rfl hk0 ?_
  refine gw_aload_n C 64 dX4_copyFrom_63 0 rfl rfl ?_
  refine gw_aload_n C 65 dX4_copyFrom_64 1 rfl rfl ?_
  refine gf_X4_40 C 68 dX4_copyFrom_65 rfl hk1 ?_
  refine pf_X4_40 C 71 dX4_copyFrom_68 rfl hk0 ?_
  exact bw_X4_copyFrom_71 C RT  k0 k1 hk0 hk1 (ps_st (ps_st (ps_st M k0 5 (M k1 5)) k0 6 ((ps_st M k0 5 (M k1 5)) k1 6)) k0 7 ((ps_st (ps_st M k0 5 (M k1 5)) k0 6 ((ps_st M k0 5 (M k1 5)) k1 6)) k1 7)) hk
def fv_X4_copyFrom_23 (k0 : Nat) (k1 : Nat) (M : ps_M) : ps_M := fv_X4_copyFrom_47 k0 k1 (ps_st (ps_st (ps_st M k0 2 (M k1 2)) k0 3 ((ps_st M k0 2 (M k1 2)) k1 3)) k0 4 ((ps_st (ps_st M k0 2 (M k1 2)) k0 3 ((ps_st M k0 2 (M k1 2)) k1 3)) k1 4))
def ok_X4_copyFrom_23 (k0 : Nat) (k1 : Nat) (M : ps_M) : Prop := ok_X4_copyFrom_47 k0 k1 (ps_st (ps_st (ps_st M k0 2 (M k1 2)) k0 3 ((ps_st M k0 2 (M k1 2)) k1 3)) k0 4 ((ps_st (ps_st M k0 2 (M k1 2)) k0 3 ((ps_st M k0 2 (M k1 2)) k1 3)) k1 4))
set_option maxRecDepth 100000 in
set_option maxHeartbeats 4000000 in
theorem bw_X4_copyFrom_23 {E : ps_E} {X : ps_X ps_M} (C : ps_C (ps_Yc E) X cX4_copyFrom RX4 none 1 18 2) (RT : ps_RV (ps_Yc E) X cX4_copyFrom) (k0 : Nat) (k1 : Nat) (hk0 : ps_kd k0 = 4) (hk1 : ps_kd k1 = 4) (M : ps_M) (hk : ok_X4_copyFrom_23 k0 k1 M) : ps_G (ps_Yc E) X (fv_X4_copyFrom_23 k0 k1 M) 23 [(0, .ref (ps_ad E k0)), (1, .ref (ps_ad E k1))] [] M := by
  unfold fv_X4_copyFrom_23
  unfold ok_X4_copyFrom_23 at hk
  refine gw_aload_n C 24 dX4_copyFrom_23 0 rfl rfl ?_
  refine gw_aload_n C 25 dX4_copyFrom_24 1 rfl rfl ?_
  refine gf_X4_25 C 28 dX4_copyFrom_25 rfl hk1 ?_
  refine pf_X4_25 C 31 dX4_copyFrom_28 rfl hk0 ?_
  refine gw_aload_n C 32 dX4_copyFrom_31 0 rfl rfl ?_
  refine gw_aload_n C 33 dX4_copyFrom_32 1 rfl rfl ?_
  refine gf_X4_28 C 36 dX4_copyFrom_33 rfl hk1 ?_
  refine pf_X4_28 C 39 dX4_copyFrom_36 rfl hk0 ?_
  refine gw_aload_n C 40 dX4_copyFrom_39 0 rfl rfl ?_
  refine gw_aload_n C 41 dX4_copyFrom_40 1 rfl rfl ?_
  refine gf_X4_31 C 44 dX4_copyFrom_41 rfl hk1 ?_
  refine pf_X4_31 C 47 dX4_copyFrom_44 rfl hk0 ?_
  exact bw_X4_copyFrom_47 C RT  k0 k1 hk0 hk1 (ps_st (ps_st (ps_st M k0 2 (M k1 2)) k0 3 ((ps_st M k0 2 (M k1 2)) k1 3)) k0 4 ((ps_st (ps_st M k0 2 (M k1 2)) k0 3 ((ps_st M k0 2 (M k1 2)) k1 3)) k1 4)) hk
def fv_X4_copyFrom (k0 : Nat) (k1 : Nat) (M : ps_M) : ps_M := fv_X4_copyFrom_23 k0 k1 (ps_st (ps_cpy M (k1 + 1) ((0 : Int32)).toNatClampNeg (k0 + 1) ((0 : Int32)).toNatClampNeg ((15 : Int32)).toNatClampNeg) k0 1 ((ps_cpy M (k1 + 1) ((0 : Int32)).toNatClampNeg (k0 + 1) ((0 : Int32)).toNatClampNeg ((15 : Int32)).toNatClampNeg) k1 1))
def ok_X4_copyFrom (k0 : Nat) (k1 : Nat) (M : ps_M) : Prop := (¬ (0 : Int32) < 0) ∧ ((¬ (0 : Int32) < 0) ∧ ((¬ (15 : Int32) < 0) ∧ ((((0 : Int32)).toNatClampNeg + ((15 : Int32)).toNatClampNeg ≤ 15) ∧ ((((0 : Int32)).toNatClampNeg + ((15 : Int32)).toNatClampNeg ≤ 15) ∧ (ok_X4_copyFrom_23 k0 k1 (ps_st (ps_cpy M (k1 + 1) ((0 : Int32)).toNatClampNeg (k0 + 1) ((0 : Int32)).toNatClampNeg ((15 : Int32)).toNatClampNeg) k0 1 ((ps_cpy M (k1 + 1) ((0 : Int32)).toNatClampNeg (k0 + 1) ((0 : Int32)).toNatClampNeg ((15 : Int32)).toNatClampNeg) k1 1)))))))
set_option maxRecDepth 100000 in
set_option maxHeartbeats 4000000 in
theorem bw_X4_copyFrom {E : ps_E} {X : ps_X ps_M} (C : ps_C (ps_Yc E) X cX4_copyFrom RX4 none 1 18 2) (RT : ps_RV (ps_Yc E) X cX4_copyFrom) (k0 : Nat) (k1 : Nat) (hk0 : ps_kd k0 = 4) (hk1 : ps_kd k1 = 4) (M : ps_M) (hk : ok_X4_copyFrom k0 k1 M) : ps_G (ps_Yc E) X (fv_X4_copyFrom k0 k1 M) 0 [(0, .ref (ps_ad E k0)), (1, .ref (ps_ad E k1))] [] M := by
  unfold fv_X4_copyFrom
  unfold ok_X4_copyFrom at hk
  refine gw_aload_n C 1 dX4_copyFrom_0 1 rfl rfl ?_
  refine gf_X4_9 C 4 dX4_copyFrom_1 rfl hk1 ?_
  refine gw_iconst C 5 dX4_copyFrom_4 (v := 0) (by decide) rfl ?_
  refine gw_aload_n C 6 dX4_copyFrom_5 0 rfl rfl ?_
  refine gf_X4_9 C 9 dX4_copyFrom_6 rfl hk0 ?_
  refine gw_iconst C 10 dX4_copyFrom_9 (v := 0) (by decide) rfl ?_
  refine gw_bipush C 12 dX4_copyFrom_10 (v := 15) (by decide) rfl ?_
  refine gw_copy C 15 dX4_copyFrom_12 rfl lk_X4_15 (Or.inl (kd_s1 hk1)) (Or.inl (kd_s1 hk0)) hk.1 hk.2.1 hk.2.2.1 (by rw [ps_cln_I15 (kd_s1 hk1)]; exact hk.2.2.2.1) (by rw [ps_cln_I15 (kd_s1 hk0)]; exact hk.2.2.2.2.1) (Nat.le_of_ble_eq_true rfl) (by decide +kernel) ?_
  refine gw_aload_n C 16 dX4_copyFrom_15 0 rfl rfl ?_
  refine gw_aload_n C 17 dX4_copyFrom_16 1 rfl rfl ?_
  refine gf_X4_21 C 20 dX4_copyFrom_17 rfl hk1 ?_
  refine pf_X4_21 C 23 dX4_copyFrom_20 rfl hk0 ?_
  exact bw_X4_copyFrom_23 C RT  k0 k1 hk0 hk1 (ps_st (ps_cpy M (k1 + 1) ((0 : Int32)).toNatClampNeg (k0 + 1) ((0 : Int32)).toNatClampNeg ((15 : Int32)).toNatClampNeg) k0 1 ((ps_cpy M (k1 + 1) ((0 : Int32)).toNatClampNeg (k0 + 1) ((0 : Int32)).toNatClampNeg ((15 : Int32)).toNatClampNeg) k1 1)) hk.2.2.2.2.2
theorem ct_X4_copyFrom {E : ps_E} {l : Launch} (k0 : Nat) (k1 : Nat) (hk0 : ps_kd k0 = 4) (hk1 : ps_kd k1 = 4) (M : ps_M) (hk : ok_X4_copyFrom k0 k1 M) : ps_CV (ps_Yc E) l yX4_copyFrom cX4_copyFrom 2 1 18 [.ref (ps_ad E k0), .ref (ps_ad E k1)] M (fv_X4_copyFrom k0 k1 M) := ps_metV RX4 (by decide) rfl (Nat.le_of_ble_eq_true rfl) rfl (fun X _ C RT => bw_X4_copyFrom C RT k0 k1 hk0 hk1 M hk)
def fv_X4_serveQueue_94 (x2 : Int32) (M : ps_M) : Int32 × ps_M := (x2, M)
def ok_X4_serveQueue_94 (x2 : Int32) (M : ps_M) : Prop := True
set_option maxRecDepth 100000 in
set_option maxHeartbeats 4000000 in
theorem bw_X4_serveQueue_94 {E : ps_E} {X : ps_X (Int32 × ps_M)} (C : ps_C (ps_Yc E) X cX4_serveQueue RX4 (some .int) 1 14 3) (RT : ps_RI (ps_Yc E) X cX4_serveQueue .int) (x2 : Int32) (M : ps_M) (hk : ok_X4_serveQueue_94 x2 M) : ps_G (ps_Yc E) X (fv_X4_serveQueue_94 x2 M) 94 [(2, .int x2)] [] M := by
  unfold fv_X4_serveQueue_94
  unfold ok_X4_serveQueue_94 at hk
  refine gw_iload_n C 95 dX4_serveQueue_94 0 rfl rfl ?_
  exact RT _ _ _ _ dX4_serveQueue_95 rfl
def fv_X4_serveQueue_56 (k0 : Nat) (x2 : Int32) (M : ps_M) : Int32 × ps_M := fv_X4_serveQueue_94 x2 (ps_st (ps_st (ps_st M k0 10 ((M k0 10) + x2)) k0 4 (((ps_st M k0 10 ((M k0 10) + x2)) k0 4) + ((ps_st M k0 10 ((M k0 10) + x2)) k0 1))) k0 2 (if ((ps_st (ps_st M k0 10 ((M k0 10) + x2)) k0 4 (((ps_st M k0 10 ((M k0 10) + x2)) k0 4) + ((ps_st M k0 10 ((M k0 10) + x2)) k0 1))) k0 2) < ((ps_st (ps_st M k0 10 ((M k0 10) + x2)) k0 4 (((ps_st M k0 10 ((M k0 10) + x2)) k0 4) + ((ps_st M k0 10 ((M k0 10) + x2)) k0 1))) k0 1) then ((ps_st (ps_st M k0 10 ((M k0 10) + x2)) k0 4 (((ps_st M k0 10 ((M k0 10) + x2)) k0 4) + ((ps_st M k0 10 ((M k0 10) + x2)) k0 1))) k0 1) else ((ps_st (ps_st M k0 10 ((M k0 10) + x2)) k0 4 (((ps_st M k0 10 ((M k0 10) + x2)) k0 4) + ((ps_st M k0 10 ((M k0 10) + x2)) k0 1))) k0 2)))
def ok_X4_serveQueue_56 (k0 : Nat) (x2 : Int32) (M : ps_M) : Prop := ok_X4_serveQueue_94 x2 (ps_st (ps_st (ps_st M k0 10 ((M k0 10) + x2)) k0 4 (((ps_st M k0 10 ((M k0 10) + x2)) k0 4) + ((ps_st M k0 10 ((M k0 10) + x2)) k0 1))) k0 2 (if ((ps_st (ps_st M k0 10 ((M k0 10) + x2)) k0 4 (((ps_st M k0 10 ((M k0 10) + x2)) k0 4) + ((ps_st M k0 10 ((M k0 10) + x2)) k0 1))) k0 2) < ((ps_st (ps_st M k0 10 ((M k0 10) + x2)) k0 4 (((ps_st M k0 10 ((M k0 10) + x2)) k0 4) + ((ps_st M k0 10 ((M k0 10) + x2)) k0 1))) k0 1) then ((ps_st (ps_st M k0 10 ((M k0 10) + x2)) k0 4 (((ps_st M k0 10 ((M k0 10) + x2)) k0 4) + ((ps_st M k0 10 ((M k0 10) + x2)) k0 1))) k0 1) else ((ps_st (ps_st M k0 10 ((M k0 10) + x2)) k0 4 (((ps_st M k0 10 ((M k0 10) + x2)) k0 4) + ((ps_st M k0 10 ((M k0 10) + x2)) k0 1))) k0 2)))
set_option maxRecDepth 100000 in
set_option maxHeartbeats 4000000 in
theorem bw_X4_serveQueue_56 {E : ps_E} {X : ps_X (Int32 × ps_M)} (C : ps_C (ps_Yc E) X cX4_serveQueue RX4 (some .int) 1 14 3) (RT : ps_RI (ps_Yc E) X cX4_serveQueue .int) (k0 : Nat) (x2 : Int32) (hk0 : ps_kd k0 = 4) (M : ps_M) (hk : ok_X4_serveQueue_56 k0 x2 M) : ps_G (ps_Yc E) X (fv_X4_serveQueue_56 k0 x2 M) 56 [(0, .ref (ps_ad E k0)), (2, .int x2)] [] M := by
  unfold fv_X4_serveQueue_56
  unfold ok_X4_serveQueue_56 at hk
  refine gw_aload_n C 57 dX4_serveQueue_56 0 rfl rfl ?_
  refine gw_dup C 58 dX4_serveQueue_57 rfl rfl ?_
  refine gf_X4_49 C 61 dX4_serveQueue_58 rfl hk0 ?_
  refine gw_iload_n C 62 dX4_serveQueue_61 1 rfl rfl ?_
  refine gw_iadd C 63 dX4_serveQueue_62 rfl ?_
  refine pf_X4_49 C 66 dX4_serveQueue_63 rfl hk0 ?_
  refine gw_aload_n C 67 dX4_serveQueue_66 0 rfl rfl ?_
  refine gw_dup C 68 dX4_serveQueue_67 rfl rfl ?_
  refine gf_X4_31 C 71 dX4_serveQueue_68 rfl hk0 ?_
  refine gw_aload_n C 72 dX4_serveQueue_71 0 rfl rfl ?_
  refine gf_X4_21 C 75 dX4_serveQueue_72 rfl hk0 ?_
  refine gw_iadd C 76 dX4_serveQueue_75 rfl ?_
  refine pf_X4_31 C 79 dX4_serveQueue_76 rfl hk0 ?_
  refine gw_aload_n C 80 dX4_serveQueue_79 0 rfl rfl ?_
  refine gw_aload_n C 81 dX4_serveQueue_80 0 rfl rfl ?_
  refine gf_X4_25 C 84 dX4_serveQueue_81 rfl hk0 ?_
  refine gw_aload_n C 85 dX4_serveQueue_84 0 rfl rfl ?_
  refine gf_X4_21 C 88 dX4_serveQueue_85 rfl hk0 ?_
  refine gw_mmax C 91 dX4_serveQueue_88 rfl lk_X4_64 (Nat.le_of_ble_eq_true rfl) (Nat.le_of_ble_eq_true rfl) ?_
  refine pf_X4_25 C 94 dX4_serveQueue_91 rfl hk0 ?_
  refine gw_sub C [(2, .int x2)] [1] rfl ?_
  exact bw_X4_serveQueue_94 C RT  x2 (ps_st (ps_st (ps_st M k0 10 ((M k0 10) + x2)) k0 4 (((ps_st M k0 10 ((M k0 10) + x2)) k0 4) + ((ps_st M k0 10 ((M k0 10) + x2)) k0 1))) k0 2 (if ((ps_st (ps_st M k0 10 ((M k0 10) + x2)) k0 4 (((ps_st M k0 10 ((M k0 10) + x2)) k0 4) + ((ps_st M k0 10 ((M k0 10) + x2)) k0 1))) k0 2) < ((ps_st (ps_st M k0 10 ((M k0 10) + x2)) k0 4 (((ps_st M k0 10 ((M k0 10) + x2)) k0 4) + ((ps_st M k0 10 ((M k0 10) + x2)) k0 1))) k0 1) then ((ps_st (ps_st M k0 10 ((M k0 10) + x2)) k0 4 (((ps_st M k0 10 ((M k0 10) + x2)) k0 4) + ((ps_st M k0 10 ((M k0 10) + x2)) k0 1))) k0 1) else ((ps_st (ps_st M k0 10 ((M k0 10) + x2)) k0 4 (((ps_st M k0 10 ((M k0 10) + x2)) k0 4) + ((ps_st M k0 10 ((M k0 10) + x2)) k0 1))) k0 2))) hk
def fv_X4_serveQueue_26 (k0 : Nat) (x2 : Int32) (M : ps_M) : Int32 × ps_M := fv_X4_serveQueue_56 k0 x2 (ps_st (ps_st (ps_st M k0 5 ((M k0 5) - x2)) k0 3 (((ps_st M k0 5 ((M k0 5) - x2)) k0 3) + x2)) k0 6 (((ps_st (ps_st M k0 5 ((M k0 5) - x2)) k0 3 (((ps_st M k0 5 ((M k0 5) - x2)) k0 3) + x2)) k0 6) + x2))
def ok_X4_serveQueue_26 (k0 : Nat) (x2 : Int32) (M : ps_M) : Prop := ok_X4_serveQueue_56 k0 x2 (ps_st (ps_st (ps_st M k0 5 ((M k0 5) - x2)) k0 3 (((ps_st M k0 5 ((M k0 5) - x2)) k0 3) + x2)) k0 6 (((ps_st (ps_st M k0 5 ((M k0 5) - x2)) k0 3 (((ps_st M k0 5 ((M k0 5) - x2)) k0 3) + x2)) k0 6) + x2))
set_option maxRecDepth 100000 in
set_option maxHeartbeats 4000000 in
theorem bw_X4_serveQueue_26 {E : ps_E} {X : ps_X (Int32 × ps_M)} (C : ps_C (ps_Yc E) X cX4_serveQueue RX4 (some .int) 1 14 3) (RT : ps_RI (ps_Yc E) X cX4_serveQueue .int) (k0 : Nat) (x2 : Int32) (hk0 : ps_kd k0 = 4) (M : ps_M) (hk : ok_X4_serveQueue_26 k0 x2 M) : ps_G (ps_Yc E) X (fv_X4_serveQueue_26 k0 x2 M) 26 [(0, .ref (ps_ad E k0)), (2, .int x2)] [] M := by
  unfold fv_X4_serveQueue_26
  unfold ok_X4_serveQueue_26 at hk
  refine gw_aload_n C 27 dX4_serveQueue_26 0 rfl rfl ?_
  refine gw_dup C 28 dX4_serveQueue_27 rfl rfl ?_
  refine gf_X4_34 C 31 dX4_serveQueue_28 rfl hk0 ?_
  refine gw_iload_n C 32 dX4_serveQueue_31 1 rfl rfl ?_
  refine gw_isub C 33 dX4_serveQueue_32 rfl ?_
  refine pf_X4_34 C 36 dX4_serveQueue_33 rfl hk0 ?_
  refine gw_aload_n C 37 dX4_serveQueue_36 0 rfl rfl ?_
  refine gw_dup C 38 dX4_serveQueue_37 rfl rfl ?_
  refine gf_X4_28 C 41 dX4_serveQueue_38 rfl hk0 ?_
  refine gw_iload_n C 42 dX4_serveQueue_41 1 rfl rfl ?_
  refine gw_iadd C 43 dX4_serveQueue_42 rfl ?_
  refine pf_X4_28 C 46 dX4_serveQueue_43 rfl hk0 ?_
  refine gw_aload_n C 47 dX4_serveQueue_46 0 rfl rfl ?_
  refine gw_dup C 48 dX4_serveQueue_47 rfl rfl ?_
  refine gf_X4_37 C 51 dX4_serveQueue_48 rfl hk0 ?_
  refine gw_iload_n C 52 dX4_serveQueue_51 1 rfl rfl ?_
  refine gw_iadd C 53 dX4_serveQueue_52 rfl ?_
  refine pf_X4_37 C 56 dX4_serveQueue_53 rfl hk0 ?_
  exact bw_X4_serveQueue_56 C RT  k0 x2 hk0 (ps_st (ps_st (ps_st M k0 5 ((M k0 5) - x2)) k0 3 (((ps_st M k0 5 ((M k0 5) - x2)) k0 3) + x2)) k0 6 (((ps_st (ps_st M k0 5 ((M k0 5) - x2)) k0 3 (((ps_st M k0 5 ((M k0 5) - x2)) k0 3) + x2)) k0 6) + x2)) hk
def fv_X4_serveQueue (k0 : Nat) (x1 : Int32) (M : ps_M) : Int32 × ps_M := fv_X4_serveQueue_26 k0 (if (if (M k0 5) < x1 then (M k0 5) else x1) < (M k0 1) then (if (M k0 5) < x1 then (M k0 5) else x1) else (M k0 1)) (ps_st M k0 1 ((M k0 1) - (if (if (M k0 5) < x1 then (M k0 5) else x1) < (M k0 1) then (if (M k0 5) < x1 then (M k0 5) else x1) else (M k0 1))))
def ok_X4_serveQueue (k0 : Nat) (x1 : Int32) (M : ps_M) : Prop := ok_X4_serveQueue_26 k0 (if (if (M k0 5) < x1 then (M k0 5) else x1) < (M k0 1) then (if (M k0 5) < x1 then (M k0 5) else x1) else (M k0 1)) (ps_st M k0 1 ((M k0 1) - (if (if (M k0 5) < x1 then (M k0 5) else x1) < (M k0 1) then (if (M k0 5) < x1 then (M k0 5) else x1) else (M k0 1))))
set_option maxRecDepth 100000 in
set_option maxHeartbeats 4000000 in
theorem bw_X4_serveQueue {E : ps_E} {X : ps_X (Int32 × ps_M)} (C : ps_C (ps_Yc E) X cX4_serveQueue RX4 (some .int) 1 14 3) (RT : ps_RI (ps_Yc E) X cX4_serveQueue .int) (k0 : Nat) (x1 : Int32) (hk0 : ps_kd k0 = 4) (M : ps_M) (hk : ok_X4_serveQueue k0 x1 M) : ps_G (ps_Yc E) X (fv_X4_serveQueue k0 x1 M) 0 [(0, .ref (ps_ad E k0)), (1, .int x1)] [] M := by
  unfold fv_X4_serveQueue
  unfold ok_X4_serveQueue at hk
  refine gw_aload_n C 1 dX4_serveQueue_0 0 rfl rfl ?_
  refine gf_X4_21 C 4 dX4_serveQueue_1 rfl hk0 ?_
  refine gw_iload_n C 5 dX4_serveQueue_4 1 rfl rfl ?_
  refine gw_aload_n C 6 dX4_serveQueue_5 0 rfl rfl ?_
  refine gf_X4_34 C 9 dX4_serveQueue_6 rfl hk0 ?_
  refine gw_mmin C 12 dX4_serveQueue_9 rfl lk_X4_58 (Nat.le_of_ble_eq_true rfl) (Nat.le_of_ble_eq_true rfl) ?_
  refine gw_mmin C 15 dX4_serveQueue_12 rfl lk_X4_58 (Nat.le_of_ble_eq_true rfl) (Nat.le_of_ble_eq_true rfl) ?_
  refine gw_istore_n C 16 dX4_serveQueue_15 rfl [(0, .ref (ps_ad E k0)), (1, .int x1), (2, .int (if (if (M k0 5) < x1 then (M k0 5) else x1) < (M k0 1) then (if (M k0 5) < x1 then (M k0 5) else x1) else (M k0 1)))] [1, 2, 0] (by decide) rfl ?_
  refine gw_aload_n C 17 dX4_serveQueue_16 0 rfl rfl ?_
  refine gw_dup C 18 dX4_serveQueue_17 rfl rfl ?_
  refine gf_X4_21 C 21 dX4_serveQueue_18 rfl hk0 ?_
  refine gw_iload_n C 22 dX4_serveQueue_21 2 rfl rfl ?_
  refine gw_isub C 23 dX4_serveQueue_22 rfl ?_
  refine pf_X4_21 C 26 dX4_serveQueue_23 rfl hk0 ?_
  refine gw_sub C [(0, .ref (ps_ad E k0)), (2, .int (if (if (M k0 5) < x1 then (M k0 5) else x1) < (M k0 1) then (if (M k0 5) < x1 then (M k0 5) else x1) else (M k0 1)))] [0, 2] rfl ?_
  exact bw_X4_serveQueue_26 C RT  k0 (if (if (M k0 5) < x1 then (M k0 5) else x1) < (M k0 1) then (if (M k0 5) < x1 then (M k0 5) else x1) else (M k0 1)) hk0 (ps_st M k0 1 ((M k0 1) - (if (if (M k0 5) < x1 then (M k0 5) else x1) < (M k0 1) then (if (M k0 5) < x1 then (M k0 5) else x1) else (M k0 1)))) hk
theorem ct_X4_serveQueue {E : ps_E} {l : Launch} (k0 : Nat) (x1 : Int32) (hk0 : ps_kd k0 = 4) (M : ps_M) (hk : ok_X4_serveQueue k0 x1 M) : ps_CI (ps_Yc E) l yX4_serveQueue cX4_serveQueue 3 (some .int) 1 14 [.ref (ps_ad E k0), .int x1] M (fv_X4_serveQueue k0 x1 M) := ps_metI RX4 (by decide) rfl (Nat.le_of_ble_eq_true rfl) rfl (fun X _ C RT => bw_X4_serveQueue C RT k0 x1 hk0 M hk)
def fv_X4_allArrivals_4 : Nat → Nat → Int32 → Int32 → ps_M → Int32
  | 0, _, _, _, M => 0
  | n + 1, k0, x1, x2, M => if (15 : Int32) ≤ x2 then x1 else (fv_X4_allArrivals_4 n k0 (x1 + (M (k0 + 1) (x2).toNatClampNeg)) (x2 + (1 : Int32)) M)
theorem fv_X4_allArrivals_4_s (n : Nat) (k0 : Nat) (x1 : Int32) (x2 : Int32) (M : ps_M) : fv_X4_allArrivals_4 (n + 1) k0 x1 x2 M = (if (15 : Int32) ≤ x2 then x1 else (fv_X4_allArrivals_4 n k0 (x1 + (M (k0 + 1) (x2).toNatClampNeg)) (x2 + (1 : Int32)) M)) := rfl
def ok_X4_allArrivals_4 : Nat → Nat → Int32 → Int32 → ps_M → Prop
  | 0, _, _, _, _ => False
  | n + 1, k0, x1, x2, M => ((15 : Int32) ≤ x2 → True) ∧ (¬ ((15 : Int32) ≤ x2) → ((vp_in x2 15) ∧ (ok_X4_allArrivals_4 n k0 (x1 + (M (k0 + 1) (x2).toNatClampNeg)) (x2 + (1 : Int32)) M)))
theorem ok_X4_allArrivals_4_s (n : Nat) (k0 : Nat) (x1 : Int32) (x2 : Int32) (M : ps_M) : ok_X4_allArrivals_4 (n + 1) k0 x1 x2 M = (((15 : Int32) ≤ x2 → True) ∧ (¬ ((15 : Int32) ≤ x2) → ((vp_in x2 15) ∧ (ok_X4_allArrivals_4 n k0 (x1 + (M (k0 + 1) (x2).toNatClampNeg)) (x2 + (1 : Int32)) M)))) := rfl
set_option maxRecDepth 100000 in
set_option maxHeartbeats 4000000 in
theorem bw_X4_allArrivals_4 {E : ps_E} {X : ps_X (Int32 × ps_M)} (C : ps_C (ps_Yc E) X cX4_allArrivals RX4 (some .int) 0 0 3) (RT : ps_RI (ps_Yc E) X cX4_allArrivals .int) (M : ps_M) : ∀ (n : Nat) (k0 : Nat) (x1 : Int32) (x2 : Int32) (hk0 : ps_kd k0 = 4), ok_X4_allArrivals_4 n k0 x1 x2 M → ps_G (ps_Yc E) X (fv_X4_allArrivals_4 n k0 x1 x2 M, M) 4 [(0, .ref (ps_ad E k0)), (1, .int x1), (2, .int x2)] [] M := by
  intro n
  induction n with
  | zero => intro k0 x1 x2 hk0 h; exact h.elim
  | succ n ih =>
    intro k0 x1 x2 hk0 hk
    rw [fv_X4_allArrivals_4_s]
    rw [ok_X4_allArrivals_4_s] at hk
    refine gw_iload_n C 5 dX4_allArrivals_4 2 rfl rfl ?_
    refine gw_bipush C 7 dX4_allArrivals_5 (v := 15) (by decide) rfl ?_
    refine gw_ic_geP C 25 10 dX4_allArrivals_7 (by decide) rfl (fun c7 => ?_) (fun c7 => ?_)
    · refine gw_iload_n C 26 dX4_allArrivals_25 1 rfl rfl ?_
      exact RT _ _ _ _ dX4_allArrivals_26 rfl
    · refine gw_iload_n C 11 dX4_allArrivals_10 1 rfl rfl ?_
      refine gw_aload_n C 12 dX4_allArrivals_11 0 rfl rfl ?_
      refine gf_X4_9 C 15 dX4_allArrivals_12 rfl hk0 ?_
      refine gw_iload_n C 16 dX4_allArrivals_15 2 rfl rfl ?_
      refine gw_ld_i15 C 17 dX4_allArrivals_16 rfl (kd_s1 hk0) (hk.2 c7).1 ?_
      refine gw_iadd C 18 dX4_allArrivals_17 rfl ?_
      refine gw_istore_n C 19 dX4_allArrivals_18 rfl [(0, .ref (ps_ad E k0)), (1, .int (x1 + (M (k0 + 1) (x2).toNatClampNeg))), (2, .int x2)] [1, 0, 2] (by decide) rfl ?_
      refine gw_iinc C 22 dX4_allArrivals_19 rfl (y := 1) (by decide) rfl 2 rfl [(0, .ref (ps_ad E k0)), (1, .int (x1 + (M (k0 + 1) (x2).toNatClampNeg))), (2, .int (x2 + (1 : Int32)))] [1, 2, 0] (by decide) rfl ?_
      refine gw_goto C 4 dX4_allArrivals_22 (by decide) ?_
      exact ih k0 (x1 + (M (k0 + 1) (x2).toNatClampNeg)) (x2 + (1 : Int32)) hk0 (hk.2 c7).2
def fv_X4_allArrivals (k0 : Nat) (M : ps_M) : Int32 := fv_X4_allArrivals_4 ps_FU k0 (0 : Int32) (0 : Int32) M
def ok_X4_allArrivals (k0 : Nat) (M : ps_M) : Prop := ok_X4_allArrivals_4 ps_FU k0 (0 : Int32) (0 : Int32) M
set_option maxRecDepth 100000 in
set_option maxHeartbeats 4000000 in
theorem bw_X4_allArrivals {E : ps_E} {X : ps_X (Int32 × ps_M)} (C : ps_C (ps_Yc E) X cX4_allArrivals RX4 (some .int) 0 0 3) (RT : ps_RI (ps_Yc E) X cX4_allArrivals .int) (M : ps_M) (k0 : Nat) (hk0 : ps_kd k0 = 4) (hk : ok_X4_allArrivals k0 M) : ps_G (ps_Yc E) X (fv_X4_allArrivals k0 M, M) 0 [(0, .ref (ps_ad E k0))] [] M := by
  unfold fv_X4_allArrivals
  unfold ok_X4_allArrivals at hk
  refine gw_iconst C 1 dX4_allArrivals_0 (v := 0) (by decide) rfl ?_
  refine gw_istore_n C 2 dX4_allArrivals_1 rfl [(0, .ref (ps_ad E k0)), (1, .int (0 : Int32))] [1, 0] (by decide) rfl ?_
  refine gw_iconst C 3 dX4_allArrivals_2 (v := 0) (by decide) rfl ?_
  refine gw_istore_n C 4 dX4_allArrivals_3 rfl [(0, .ref (ps_ad E k0)), (1, .int (0 : Int32)), (2, .int (0 : Int32))] [1, 2, 0] (by decide) rfl ?_
  exact bw_X4_allArrivals_4 C RT M  ps_FU k0 (0 : Int32) (0 : Int32) hk0 hk
theorem ct_X4_allArrivals {E : ps_E} {l : Launch} (k0 : Nat) (hk0 : ps_kd k0 = 4) (M : ps_M) (hk : ok_X4_allArrivals k0 M) : ps_CI (ps_Yc E) l yX4_allArrivals cX4_allArrivals 3 (some .int) 0 0 [.ref (ps_ad E k0)] M (fv_X4_allArrivals k0 M, M) := ps_metI RX4 (by decide) rfl (Nat.le_of_ble_eq_true rfl) rfl (fun X _ C RT => bw_X4_allArrivals C RT M k0 hk0 hk)
def fv_X4_isCounted (k0 : Nat) (M : ps_M) : Int32 := if (M k0 12) ≤ 0 then ((0 : Int32)) else ((1 : Int32))
def ok_X4_isCounted (k0 : Nat) (M : ps_M) : Prop := True
set_option maxRecDepth 100000 in
set_option maxHeartbeats 4000000 in
theorem bw_X4_isCounted {E : ps_E} {X : ps_X (Int32 × ps_M)} (C : ps_C (ps_Yc E) X cX4_isCounted RX4 (some .boolean) 0 0 1) (RT : ps_RI (ps_Yc E) X cX4_isCounted .boolean) (M : ps_M) (k0 : Nat) (hk0 : ps_kd k0 = 4) (hk : ok_X4_isCounted k0 M) : ps_G (ps_Yc E) X (fv_X4_isCounted k0 M, M) 0 [(0, .ref (ps_ad E k0))] [] M := by
  unfold fv_X4_isCounted
  unfold ok_X4_isCounted at hk
  refine gw_aload_n C 1 dX4_isCounted_0 0 rfl rfl ?_
  refine gf_X4_55 C 4 dX4_isCounted_1 rfl hk0 ?_
  refine gw_if_leP C 11 7 dX4_isCounted_4 (by decide) rfl (fun c4 => ?_) (fun c4 => ?_)
  · refine gw_iconst C 12 dX4_isCounted_11 (v := 0) (by decide) rfl ?_
    exact RT _ _ _ _ dX4_isCounted_12 ps_nb0
  · refine gw_iconst C 8 dX4_isCounted_7 (v := 1) (by decide) rfl ?_
    refine gw_goto C 12 dX4_isCounted_8 (by decide) ?_
    exact RT _ _ _ _ dX4_isCounted_12 ps_nb1
theorem ct_X4_isCounted {E : ps_E} {l : Launch} (k0 : Nat) (hk0 : ps_kd k0 = 4) (M : ps_M) (hk : ok_X4_isCounted k0 M) : ps_CI (ps_Yc E) l yX4_isCounted cX4_isCounted 1 (some .boolean) 0 0 [.ref (ps_ad E k0)] M (fv_X4_isCounted k0 M, M) := ps_metI RX4 (by decide) rfl (Nat.le_of_ble_eq_true rfl) rfl (fun X _ C RT => bw_X4_isCounted C RT M k0 hk0 hk)
def fv_X4_becomeSumOf_127 (rec32 : Nat → Nat → Int32 → Int32 → ps_M → ps_M) (k0 : Nat) (k1 : Nat) (x2 : Int32) (x3 : Int32) (M : ps_M) : ps_M := rec32 k0 k1 x2 (x3 + (1 : Int32)) M
def ok_X4_becomeSumOf_127 (rec32 : Nat → Nat → Int32 → Int32 → ps_M → ps_M) (okr32 : Nat → Nat → Int32 → Int32 → ps_M → Prop) (k0 : Nat) (k1 : Nat) (x2 : Int32) (x3 : Int32) (M : ps_M) : Prop := okr32 k0 k1 x2 (x3 + (1 : Int32)) M
set_option maxRecDepth 100000 in
set_option maxHeartbeats 4000000 in
theorem bw_X4_becomeSumOf_127 {E : ps_E} {X : ps_X ps_M} (C : ps_C (ps_Yc E) X cX4_becomeSumOf RX4 none 0 0 4) (RT : ps_RV (ps_Yc E) X cX4_becomeSumOf) (rec32 : Nat → Nat → Int32 → Int32 → ps_M → ps_M) (okr32 : Nat → Nat → Int32 → Int32 → ps_M → Prop) (hr32 : ∀ (k0 : Nat) (k1 : Nat) (x2 : Int32) (x3 : Int32) (hk0 : ps_kd k0 = 4) (hk1 : ps_kd k1 = 3) (M : ps_M), okr32 k0 k1 x2 x3 M → ps_G (ps_Yc E) X (rec32 k0 k1 x2 x3 M) 32 [(0, .ref (ps_ad E k0)), (1, .ref (ps_ad E k1)), (2, .int x2), (3, .int x3)] [] M) (k0 : Nat) (k1 : Nat) (x2 : Int32) (x3 : Int32) (hk0 : ps_kd k0 = 4) (hk1 : ps_kd k1 = 3) (M : ps_M) (hk : ok_X4_becomeSumOf_127 rec32 okr32 k0 k1 x2 x3 M) : ps_G (ps_Yc E) X (fv_X4_becomeSumOf_127 rec32 k0 k1 x2 x3 M) 127 [(0, .ref (ps_ad E k0)), (1, .ref (ps_ad E k1)), (2, .int x2), (3, .int x3)] [] M := by
  unfold fv_X4_becomeSumOf_127
  unfold ok_X4_becomeSumOf_127 at hk
  refine gw_iinc C 130 dX4_becomeSumOf_127 rfl (y := 1) (by decide) rfl 3 rfl [(0, .ref (ps_ad E k0)), (1, .ref (ps_ad E k1)), (2, .int x2), (3, .int (x3 + (1 : Int32)))] [1, 2, 3, 0] (by decide) rfl ?_
  refine gw_goto C 32 dX4_becomeSumOf_130 (by decide) ?_
  exact hr32 k0 k1 x2 (x3 + (1 : Int32)) hk0 hk1 M hk
def fv_X4_becomeSumOf_97 (rec32 : Nat → Nat → Int32 → Int32 → ps_M → ps_M) (k0 : Nat) (k1 : Nat) (x2 : Int32) (x3 : Int32) (M : ps_M) : ps_M := fv_X4_becomeSumOf_127 rec32 k0 k1 x2 x3 (ps_st (ps_st M k0 6 ((M k0 6) + (M (k1 + 1 + 2 * (x3).toNatClampNeg) 6))) k0 10 (((ps_st M k0 6 ((M k0 6) + (M (k1 + 1 + 2 * (x3).toNatClampNeg) 6))) k0 10) + ((ps_st M k0 6 ((M k0 6) + (M (k1 + 1 + 2 * (x3).toNatClampNeg) 6))) (k1 + 1 + 2 * (x3).toNatClampNeg) 10)))
def ok_X4_becomeSumOf_97 (rec32 : Nat → Nat → Int32 → Int32 → ps_M → ps_M) (okr32 : Nat → Nat → Int32 → Int32 → ps_M → Prop) (k0 : Nat) (k1 : Nat) (x2 : Int32) (x3 : Int32) (M : ps_M) : Prop := (vp_in x3 6) ∧ ((vp_in x3 6) ∧ (ok_X4_becomeSumOf_127 rec32 okr32 k0 k1 x2 x3 (ps_st (ps_st M k0 6 ((M k0 6) + (M (k1 + 1 + 2 * (x3).toNatClampNeg) 6))) k0 10 (((ps_st M k0 6 ((M k0 6) + (M (k1 + 1 + 2 * (x3).toNatClampNeg) 6))) k0 10) + ((ps_st M k0 6 ((M k0 6) + (M (k1 + 1 + 2 * (x3).toNatClampNeg) 6))) (k1 + 1 + 2 * (x3).toNatClampNeg) 10)))))
set_option maxRecDepth 100000 in
set_option maxHeartbeats 4000000 in
theorem bw_X4_becomeSumOf_97 {E : ps_E} {X : ps_X ps_M} (C : ps_C (ps_Yc E) X cX4_becomeSumOf RX4 none 0 0 4) (RT : ps_RV (ps_Yc E) X cX4_becomeSumOf) (rec32 : Nat → Nat → Int32 → Int32 → ps_M → ps_M) (okr32 : Nat → Nat → Int32 → Int32 → ps_M → Prop) (hr32 : ∀ (k0 : Nat) (k1 : Nat) (x2 : Int32) (x3 : Int32) (hk0 : ps_kd k0 = 4) (hk1 : ps_kd k1 = 3) (M : ps_M), okr32 k0 k1 x2 x3 M → ps_G (ps_Yc E) X (rec32 k0 k1 x2 x3 M) 32 [(0, .ref (ps_ad E k0)), (1, .ref (ps_ad E k1)), (2, .int x2), (3, .int x3)] [] M) (k0 : Nat) (k1 : Nat) (x2 : Int32) (x3 : Int32) (hk0 : ps_kd k0 = 4) (hk1 : ps_kd k1 = 3) (M : ps_M) (hk : ok_X4_becomeSumOf_97 rec32 okr32 k0 k1 x2 x3 M) : ps_G (ps_Yc E) X (fv_X4_becomeSumOf_97 rec32 k0 k1 x2 x3 M) 97 [(0, .ref (ps_ad E k0)), (1, .ref (ps_ad E k1)), (2, .int x2), (3, .int x3)] [] M := by
  unfold fv_X4_becomeSumOf_97
  unfold ok_X4_becomeSumOf_97 at hk
  refine gw_aload_n C 98 dX4_becomeSumOf_97 0 rfl rfl ?_
  refine gw_dup C 99 dX4_becomeSumOf_98 rfl rfl ?_
  refine gf_X4_37 C 102 dX4_becomeSumOf_99 rfl hk0 ?_
  refine gw_aload_n C 103 dX4_becomeSumOf_102 1 rfl rfl ?_
  refine gw_iload_n C 104 dX4_becomeSumOf_103 3 rfl rfl ?_
  refine gw_alS C 105 dX4_becomeSumOf_104 rfl hk1 hk.1 ?_
  refine gf_X4_37 C 108 dX4_becomeSumOf_105 rfl (kd_S hk1 hk.1) ?_
  refine gw_iadd C 109 dX4_becomeSumOf_108 rfl ?_
  refine pf_X4_37 C 112 dX4_becomeSumOf_109 rfl hk0 ?_
  refine gw_aload_n C 113 dX4_becomeSumOf_112 0 rfl rfl ?_
  refine gw_dup C 114 dX4_becomeSumOf_113 rfl rfl ?_
  refine gf_X4_49 C 117 dX4_becomeSumOf_114 rfl hk0 ?_
  refine gw_aload_n C 118 dX4_becomeSumOf_117 1 rfl rfl ?_
  refine gw_iload_n C 119 dX4_becomeSumOf_118 3 rfl rfl ?_
  refine gw_alS C 120 dX4_becomeSumOf_119 rfl hk1 hk.2.1 ?_
  refine gf_X4_49 C 123 dX4_becomeSumOf_120 rfl (kd_S hk1 hk.2.1) ?_
  refine gw_iadd C 124 dX4_becomeSumOf_123 rfl ?_
  refine pf_X4_49 C 127 dX4_becomeSumOf_124 rfl hk0 ?_
  exact bw_X4_becomeSumOf_127 C RT _ _ hr32 k0 k1 x2 x3 hk0 hk1 (ps_st (ps_st M k0 6 ((M k0 6) + (M (k1 + 1 + 2 * (x3).toNatClampNeg) 6))) k0 10 (((ps_st M k0 6 ((M k0 6) + (M (k1 + 1 + 2 * (x3).toNatClampNeg) 6))) k0 10) + ((ps_st M k0 6 ((M k0 6) + (M (k1 + 1 + 2 * (x3).toNatClampNeg) 6))) (k1 + 1 + 2 * (x3).toNatClampNeg) 10))) hk.2.2
def fv_X4_becomeSumOf_67 (rec32 : Nat → Nat → Int32 → Int32 → ps_M → ps_M) (k0 : Nat) (k1 : Nat) (x2 : Int32) (x3 : Int32) (M : ps_M) : ps_M := fv_X4_becomeSumOf_97 rec32 k0 k1 x2 x3 (ps_st (ps_st M k0 4 ((M k0 4) + (M (k1 + 1 + 2 * (x3).toNatClampNeg) 4))) k0 5 (((ps_st M k0 4 ((M k0 4) + (M (k1 + 1 + 2 * (x3).toNatClampNeg) 4))) k0 5) + ((ps_st M k0 4 ((M k0 4) + (M (k1 + 1 + 2 * (x3).toNatClampNeg) 4))) (k1 + 1 + 2 * (x3).toNatClampNeg) 5)))
def ok_X4_becomeSumOf_67 (rec32 : Nat → Nat → Int32 → Int32 → ps_M → ps_M) (okr32 : Nat → Nat → Int32 → Int32 → ps_M → Prop) (k0 : Nat) (k1 : Nat) (x2 : Int32) (x3 : Int32) (M : ps_M) : Prop := (vp_in x3 6) ∧ ((vp_in x3 6) ∧ (ok_X4_becomeSumOf_97 rec32 okr32 k0 k1 x2 x3 (ps_st (ps_st M k0 4 ((M k0 4) + (M (k1 + 1 + 2 * (x3).toNatClampNeg) 4))) k0 5 (((ps_st M k0 4 ((M k0 4) + (M (k1 + 1 + 2 * (x3).toNatClampNeg) 4))) k0 5) + ((ps_st M k0 4 ((M k0 4) + (M (k1 + 1 + 2 * (x3).toNatClampNeg) 4))) (k1 + 1 + 2 * (x3).toNatClampNeg) 5)))))
set_option maxRecDepth 100000 in
set_option maxHeartbeats 4000000 in
theorem bw_X4_becomeSumOf_67 {E : ps_E} {X : ps_X ps_M} (C : ps_C (ps_Yc E) X cX4_becomeSumOf RX4 none 0 0 4) (RT : ps_RV (ps_Yc E) X cX4_becomeSumOf) (rec32 : Nat → Nat → Int32 → Int32 → ps_M → ps_M) (okr32 : Nat → Nat → Int32 → Int32 → ps_M → Prop) (hr32 : ∀ (k0 : Nat) (k1 : Nat) (x2 : Int32) (x3 : Int32) (hk0 : ps_kd k0 = 4) (hk1 : ps_kd k1 = 3) (M : ps_M), okr32 k0 k1 x2 x3 M → ps_G (ps_Yc E) X (rec32 k0 k1 x2 x3 M) 32 [(0, .ref (ps_ad E k0)), (1, .ref (ps_ad E k1)), (2, .int x2), (3, .int x3)] [] M) (k0 : Nat) (k1 : Nat) (x2 : Int32) (x3 : Int32) (hk0 : ps_kd k0 = 4) (hk1 : ps_kd k1 = 3) (M : ps_M) (hk : ok_X4_becomeSumOf_67 rec32 okr32 k0 k1 x2 x3 M) : ps_G (ps_Yc E) X (fv_X4_becomeSumOf_67 rec32 k0 k1 x2 x3 M) 67 [(0, .ref (ps_ad E k0)), (1, .ref (ps_ad E k1)), (2, .int x2), (3, .int x3)] [] M := by
  unfold fv_X4_becomeSumOf_67
  unfold ok_X4_becomeSumOf_67 at hk
  refine gw_aload_n C 68 dX4_becomeSumOf_67 0 rfl rfl ?_
  refine gw_dup C 69 dX4_becomeSumOf_68 rfl rfl ?_
  refine gf_X4_31 C 72 dX4_becomeSumOf_69 rfl hk0 ?_
  refine gw_aload_n C 73 dX4_becomeSumOf_72 1 rfl rfl ?_
  refine gw_iload_n C 74 dX4_becomeSumOf_73 3 rfl rfl ?_
  refine gw_alS C 75 dX4_becomeSumOf_74 rfl hk1 hk.1 ?_
  refine gf_X4_31 C 78 dX4_becomeSumOf_75 rfl (kd_S hk1 hk.1) ?_
  refine gw_iadd C 79 dX4_becomeSumOf_78 rfl ?_
  refine pf_X4_31 C 82 dX4_becomeSumOf_79 rfl hk0 ?_
  refine gw_aload_n C 83 dX4_becomeSumOf_82 0 rfl rfl ?_
  refine gw_dup C 84 dX4_becomeSumOf_83 rfl rfl ?_
  refine gf_X4_34 C 87 dX4_becomeSumOf_84 rfl hk0 ?_
  refine gw_aload_n C 88 dX4_becomeSumOf_87 1 rfl rfl ?_
  refine gw_iload_n C 89 dX4_becomeSumOf_88 3 rfl rfl ?_
  refine gw_alS C 90 dX4_becomeSumOf_89 rfl hk1 hk.2.1 ?_
  refine gf_X4_34 C 93 dX4_becomeSumOf_90 rfl (kd_S hk1 hk.2.1) ?_
  refine gw_iadd C 94 dX4_becomeSumOf_93 rfl ?_
  refine pf_X4_34 C 97 dX4_becomeSumOf_94 rfl hk0 ?_
  exact bw_X4_becomeSumOf_97 C RT _ _ hr32 k0 k1 x2 x3 hk0 hk1 (ps_st (ps_st M k0 4 ((M k0 4) + (M (k1 + 1 + 2 * (x3).toNatClampNeg) 4))) k0 5 (((ps_st M k0 4 ((M k0 4) + (M (k1 + 1 + 2 * (x3).toNatClampNeg) 4))) k0 5) + ((ps_st M k0 4 ((M k0 4) + (M (k1 + 1 + 2 * (x3).toNatClampNeg) 4))) (k1 + 1 + 2 * (x3).toNatClampNeg) 5))) hk.2.2
def fv_X4_becomeSumOf_32 : Nat → Nat → Nat → Int32 → Int32 → ps_M → ps_M
  | 0, _, _, _, _, M => M
  | n + 1, k0, k1, x2, x3, M => if x2 ≤ x3 then M else (fv_X4_becomeSumOf_67 (fun b0 b1 a2 a3 M => fv_X4_becomeSumOf_32 n b0 b1 a2 a3 M) k0 k1 x2 x3 (ps_st (ps_st M k0 1 ((M k0 1) + (M (k1 + 1 + 2 * (x3).toNatClampNeg) 1))) k0 3 (((ps_st M k0 1 ((M k0 1) + (M (k1 + 1 + 2 * (x3).toNatClampNeg) 1))) k0 3) + ((ps_st M k0 1 ((M k0 1) + (M (k1 + 1 + 2 * (x3).toNatClampNeg) 1))) (k1 + 1 + 2 * (x3).toNatClampNeg) 3))))
theorem fv_X4_becomeSumOf_32_s (n : Nat) (k0 : Nat) (k1 : Nat) (x2 : Int32) (x3 : Int32) (M : ps_M) : fv_X4_becomeSumOf_32 (n + 1) k0 k1 x2 x3 M = (if x2 ≤ x3 then M else (fv_X4_becomeSumOf_67 (fun b0 b1 a2 a3 M => fv_X4_becomeSumOf_32 n b0 b1 a2 a3 M) k0 k1 x2 x3 (ps_st (ps_st M k0 1 ((M k0 1) + (M (k1 + 1 + 2 * (x3).toNatClampNeg) 1))) k0 3 (((ps_st M k0 1 ((M k0 1) + (M (k1 + 1 + 2 * (x3).toNatClampNeg) 1))) k0 3) + ((ps_st M k0 1 ((M k0 1) + (M (k1 + 1 + 2 * (x3).toNatClampNeg) 1))) (k1 + 1 + 2 * (x3).toNatClampNeg) 3))))) := rfl
def ok_X4_becomeSumOf_32 : Nat → Nat → Nat → Int32 → Int32 → ps_M → Prop
  | 0, _, _, _, _, _ => False
  | n + 1, k0, k1, x2, x3, M => (x2 ≤ x3 → True) ∧ (¬ (x2 ≤ x3) → ((vp_in x3 6) ∧ ((vp_in x3 6) ∧ (ok_X4_becomeSumOf_67 (fun b0 b1 a2 a3 M => fv_X4_becomeSumOf_32 n b0 b1 a2 a3 M) (fun b0 b1 a2 a3 M => ok_X4_becomeSumOf_32 n b0 b1 a2 a3 M) k0 k1 x2 x3 (ps_st (ps_st M k0 1 ((M k0 1) + (M (k1 + 1 + 2 * (x3).toNatClampNeg) 1))) k0 3 (((ps_st M k0 1 ((M k0 1) + (M (k1 + 1 + 2 * (x3).toNatClampNeg) 1))) k0 3) + ((ps_st M k0 1 ((M k0 1) + (M (k1 + 1 + 2 * (x3).toNatClampNeg) 1))) (k1 + 1 + 2 * (x3).toNatClampNeg) 3)))))))
theorem ok_X4_becomeSumOf_32_s (n : Nat) (k0 : Nat) (k1 : Nat) (x2 : Int32) (x3 : Int32) (M : ps_M) : ok_X4_becomeSumOf_32 (n + 1) k0 k1 x2 x3 M = ((x2 ≤ x3 → True) ∧ (¬ (x2 ≤ x3) → ((vp_in x3 6) ∧ ((vp_in x3 6) ∧ (ok_X4_becomeSumOf_67 (fun b0 b1 a2 a3 M => fv_X4_becomeSumOf_32 n b0 b1 a2 a3 M) (fun b0 b1 a2 a3 M => ok_X4_becomeSumOf_32 n b0 b1 a2 a3 M) k0 k1 x2 x3 (ps_st (ps_st M k0 1 ((M k0 1) + (M (k1 + 1 + 2 * (x3).toNatClampNeg) 1))) k0 3 (((ps_st M k0 1 ((M k0 1) + (M (k1 + 1 + 2 * (x3).toNatClampNeg) 1))) k0 3) + ((ps_st M k0 1 ((M k0 1) + (M (k1 + 1 + 2 * (x3).toNatClampNeg) 1))) (k1 + 1 + 2 * (x3).toNatClampNeg) 3)))))))) := rfl
set_option maxRecDepth 100000 in
set_option maxHeartbeats 4000000 in
theorem bw_X4_becomeSumOf_32 {E : ps_E} {X : ps_X ps_M} (C : ps_C (ps_Yc E) X cX4_becomeSumOf RX4 none 0 0 4) (RT : ps_RV (ps_Yc E) X cX4_becomeSumOf) : ∀ (n : Nat) (k0 : Nat) (k1 : Nat) (x2 : Int32) (x3 : Int32) (hk0 : ps_kd k0 = 4) (hk1 : ps_kd k1 = 3) (M : ps_M), ok_X4_becomeSumOf_32 n k0 k1 x2 x3 M → ps_G (ps_Yc E) X (fv_X4_becomeSumOf_32 n k0 k1 x2 x3 M) 32 [(0, .ref (ps_ad E k0)), (1, .ref (ps_ad E k1)), (2, .int x2), (3, .int x3)] [] M := by
  intro n
  induction n with
  | zero => intro k0 k1 x2 x3 hk0 hk1 M h; exact h.elim
  | succ n ih =>
    intro k0 k1 x2 x3 hk0 hk1 M hk
    rw [fv_X4_becomeSumOf_32_s]
    rw [ok_X4_becomeSumOf_32_s] at hk
    refine gw_iload_n C 33 dX4_becomeSumOf_32 3 rfl rfl ?_
    refine gw_iload_n C 34 dX4_becomeSumOf_33 2 rfl rfl ?_
    refine gw_ic_ge C 133 37 dX4_becomeSumOf_34 (by decide) rfl (fun c34 => ?_) (fun c34 => ?_)
    · exact RT _ _ _ dX4_becomeSumOf_133
    · refine gw_aload_n C 38 dX4_becomeSumOf_37 0 rfl rfl ?_
      refine gw_dup C 39 dX4_becomeSumOf_38 rfl rfl ?_
      refine gf_X4_21 C 42 dX4_becomeSumOf_39 rfl hk0 ?_
      refine gw_aload_n C 43 dX4_becomeSumOf_42 1 rfl rfl ?_
      refine gw_iload_n C 44 dX4_becomeSumOf_43 3 rfl rfl ?_
      refine gw_alS C 45 dX4_becomeSumOf_44 rfl hk1 (hk.2 c34).1 ?_
      refine gf_X4_21 C 48 dX4_becomeSumOf_45 rfl (kd_S hk1 (hk.2 c34).1) ?_
      refine gw_iadd C 49 dX4_becomeSumOf_48 rfl ?_
      refine pf_X4_21 C 52 dX4_becomeSumOf_49 rfl hk0 ?_
      refine gw_aload_n C 53 dX4_becomeSumOf_52 0 rfl rfl ?_
      refine gw_dup C 54 dX4_becomeSumOf_53 rfl rfl ?_
      refine gf_X4_28 C 57 dX4_becomeSumOf_54 rfl hk0 ?_
      refine gw_aload_n C 58 dX4_becomeSumOf_57 1 rfl rfl ?_
      refine gw_iload_n C 59 dX4_becomeSumOf_58 3 rfl rfl ?_
      refine gw_alS C 60 dX4_becomeSumOf_59 rfl hk1 (hk.2 c34).2.1 ?_
      refine gf_X4_28 C 63 dX4_becomeSumOf_60 rfl (kd_S hk1 (hk.2 c34).2.1) ?_
      refine gw_iadd C 64 dX4_becomeSumOf_63 rfl ?_
      refine pf_X4_28 C 67 dX4_becomeSumOf_64 rfl hk0 ?_
      exact bw_X4_becomeSumOf_67 C RT _ _ (fun b0 b1 a2 a3 hk0 hk1 M h => ih b0 b1 a2 a3 hk0 hk1 M h) k0 k1 x2 x3 hk0 hk1 (ps_st (ps_st M k0 1 ((M k0 1) + (M (k1 + 1 + 2 * (x3).toNatClampNeg) 1))) k0 3 (((ps_st M k0 1 ((M k0 1) + (M (k1 + 1 + 2 * (x3).toNatClampNeg) 1))) k0 3) + ((ps_st M k0 1 ((M k0 1) + (M (k1 + 1 + 2 * (x3).toNatClampNeg) 1))) (k1 + 1 + 2 * (x3).toNatClampNeg) 3))) (hk.2 c34).2.2
def fv_X4_becomeSumOf_30 (k0 : Nat) (k1 : Nat) (x2 : Int32) (M : ps_M) : ps_M := fv_X4_becomeSumOf_32 ps_FU k0 k1 x2 (0 : Int32) M
def ok_X4_becomeSumOf_30 (k0 : Nat) (k1 : Nat) (x2 : Int32) (M : ps_M) : Prop := ok_X4_becomeSumOf_32 ps_FU k0 k1 x2 (0 : Int32) M
set_option maxRecDepth 100000 in
set_option maxHeartbeats 4000000 in
theorem bw_X4_becomeSumOf_30 {E : ps_E} {X : ps_X ps_M} (C : ps_C (ps_Yc E) X cX4_becomeSumOf RX4 none 0 0 4) (RT : ps_RV (ps_Yc E) X cX4_becomeSumOf) (k0 : Nat) (k1 : Nat) (x2 : Int32) (hk0 : ps_kd k0 = 4) (hk1 : ps_kd k1 = 3) (M : ps_M) (hk : ok_X4_becomeSumOf_30 k0 k1 x2 M) : ps_G (ps_Yc E) X (fv_X4_becomeSumOf_30 k0 k1 x2 M) 30 [(0, .ref (ps_ad E k0)), (1, .ref (ps_ad E k1)), (2, .int x2)] [] M := by
  unfold fv_X4_becomeSumOf_30
  unfold ok_X4_becomeSumOf_30 at hk
  refine gw_iconst C 31 dX4_becomeSumOf_30 (v := 0) (by decide) rfl ?_
  refine gw_istore_n C 32 dX4_becomeSumOf_31 rfl [(0, .ref (ps_ad E k0)), (1, .ref (ps_ad E k1)), (2, .int x2), (3, .int (0 : Int32))] [1, 2, 3, 0] (by decide) rfl ?_
  exact bw_X4_becomeSumOf_32 C RT  ps_FU k0 k1 x2 (0 : Int32) hk0 hk1 M hk
def fv_X4_becomeSumOf (k0 : Nat) (k1 : Nat) (x2 : Int32) (M : ps_M) : ps_M := fv_X4_becomeSumOf_30 k0 k1 x2 (ps_st (ps_st (ps_st (ps_st (ps_st (ps_st M k0 1 (0 : Int32)) k0 3 (0 : Int32)) k0 4 (0 : Int32)) k0 5 (0 : Int32)) k0 6 (0 : Int32)) k0 10 (0 : Int32))
def ok_X4_becomeSumOf (k0 : Nat) (k1 : Nat) (x2 : Int32) (M : ps_M) : Prop := ok_X4_becomeSumOf_30 k0 k1 x2 (ps_st (ps_st (ps_st (ps_st (ps_st (ps_st M k0 1 (0 : Int32)) k0 3 (0 : Int32)) k0 4 (0 : Int32)) k0 5 (0 : Int32)) k0 6 (0 : Int32)) k0 10 (0 : Int32))
set_option maxRecDepth 100000 in
set_option maxHeartbeats 4000000 in
theorem bw_X4_becomeSumOf {E : ps_E} {X : ps_X ps_M} (C : ps_C (ps_Yc E) X cX4_becomeSumOf RX4 none 0 0 4) (RT : ps_RV (ps_Yc E) X cX4_becomeSumOf) (k0 : Nat) (k1 : Nat) (x2 : Int32) (hk0 : ps_kd k0 = 4) (hk1 : ps_kd k1 = 3) (M : ps_M) (hk : ok_X4_becomeSumOf k0 k1 x2 M) : ps_G (ps_Yc E) X (fv_X4_becomeSumOf k0 k1 x2 M) 0 [(0, .ref (ps_ad E k0)), (1, .ref (ps_ad E k1)), (2, .int x2)] [] M := by
  unfold fv_X4_becomeSumOf
  unfold ok_X4_becomeSumOf at hk
  refine gw_aload_n C 1 dX4_becomeSumOf_0 0 rfl rfl ?_
  refine gw_iconst C 2 dX4_becomeSumOf_1 (v := 0) (by decide) rfl ?_
  refine pf_X4_21 C 5 dX4_becomeSumOf_2 rfl hk0 ?_
  refine gw_aload_n C 6 dX4_becomeSumOf_5 0 rfl rfl ?_
  refine gw_iconst C 7 dX4_becomeSumOf_6 (v := 0) (by decide) rfl ?_
  refine pf_X4_28 C 10 dX4_becomeSumOf_7 rfl hk0 ?_
  refine gw_aload_n C 11 dX4_becomeSumOf_10 0 rfl rfl ?_
  refine gw_iconst C 12 dX4_becomeSumOf_11 (v := 0) (by decide) rfl ?_
  refine pf_X4_31 C 15 dX4_becomeSumOf_12 rfl hk0 ?_
  refine gw_aload_n C 16 dX4_becomeSumOf_15 0 rfl rfl ?_
  refine gw_iconst C 17 dX4_becomeSumOf_16 (v := 0) (by decide) rfl ?_
  refine pf_X4_34 C 20 dX4_becomeSumOf_17 rfl hk0 ?_
  refine gw_aload_n C 21 dX4_becomeSumOf_20 0 rfl rfl ?_
  refine gw_iconst C 22 dX4_becomeSumOf_21 (v := 0) (by decide) rfl ?_
  refine pf_X4_37 C 25 dX4_becomeSumOf_22 rfl hk0 ?_
  refine gw_aload_n C 26 dX4_becomeSumOf_25 0 rfl rfl ?_
  refine gw_iconst C 27 dX4_becomeSumOf_26 (v := 0) (by decide) rfl ?_
  refine pf_X4_49 C 30 dX4_becomeSumOf_27 rfl hk0 ?_
  exact bw_X4_becomeSumOf_30 C RT  k0 k1 x2 hk0 hk1 (ps_st (ps_st (ps_st (ps_st (ps_st (ps_st M k0 1 (0 : Int32)) k0 3 (0 : Int32)) k0 4 (0 : Int32)) k0 5 (0 : Int32)) k0 6 (0 : Int32)) k0 10 (0 : Int32)) hk
theorem ct_X4_becomeSumOf {E : ps_E} {l : Launch} (k0 : Nat) (k1 : Nat) (x2 : Int32) (hk0 : ps_kd k0 = 4) (hk1 : ps_kd k1 = 3) (M : ps_M) (hk : ok_X4_becomeSumOf k0 k1 x2 M) : ps_CV (ps_Yc E) l yX4_becomeSumOf cX4_becomeSumOf 4 0 0 [.ref (ps_ad E k0), .ref (ps_ad E k1), .int x2] M (fv_X4_becomeSumOf k0 k1 x2 M) := ps_metV RX4 (by decide) rfl (Nat.le_of_ble_eq_true rfl) rfl (fun X _ C RT => bw_X4_becomeSumOf C RT k0 k1 x2 hk0 hk1 M hk)
def fv_X4_countAgrees (k0 : Nat) (M : ps_M) : Int32 := if (M k0 11) = (M k0 10) then ((1 : Int32)) else ((0 : Int32))
def ok_X4_countAgrees (k0 : Nat) (M : ps_M) : Prop := True
set_option maxRecDepth 100000 in
set_option maxHeartbeats 4000000 in
theorem bw_X4_countAgrees {E : ps_E} {X : ps_X (Int32 × ps_M)} (C : ps_C (ps_Yc E) X cX4_countAgrees RX4 (some .boolean) 0 0 1) (RT : ps_RI (ps_Yc E) X cX4_countAgrees .boolean) (M : ps_M) (k0 : Nat) (hk0 : ps_kd k0 = 4) (hk : ok_X4_countAgrees k0 M) : ps_G (ps_Yc E) X (fv_X4_countAgrees k0 M, M) 0 [(0, .ref (ps_ad E k0))] [] M := by
  unfold fv_X4_countAgrees
  unfold ok_X4_countAgrees at hk
  refine gw_aload_n C 1 dX4_countAgrees_0 0 rfl rfl ?_
  refine gf_X4_52 C 4 dX4_countAgrees_1 rfl hk0 ?_
  refine gw_aload_n C 5 dX4_countAgrees_4 0 rfl rfl ?_
  refine gf_X4_49 C 8 dX4_countAgrees_5 rfl hk0 ?_
  refine gw_ic_neP C 15 11 dX4_countAgrees_8 (by decide) rfl (fun c8 => ?_) (fun c8 => ?_)
  · refine gw_iconst C 12 dX4_countAgrees_11 (v := 1) (by decide) rfl ?_
    refine gw_goto C 16 dX4_countAgrees_12 (by decide) ?_
    exact RT _ _ _ _ dX4_countAgrees_16 ps_nb1
  · refine gw_iconst C 16 dX4_countAgrees_15 (v := 0) (by decide) rfl ?_
    exact RT _ _ _ _ dX4_countAgrees_16 ps_nb0
theorem ct_X4_countAgrees {E : ps_E} {l : Launch} (k0 : Nat) (hk0 : ps_kd k0 = 4) (M : ps_M) (hk : ok_X4_countAgrees k0 M) : ps_CI (ps_Yc E) l yX4_countAgrees cX4_countAgrees 1 (some .boolean) 0 0 [.ref (ps_ad E k0)] M (fv_X4_countAgrees k0 M, M) := ps_metI RX4 (by decide) rfl (Nat.le_of_ble_eq_true rfl) rfl (fun X _ C RT => bw_X4_countAgrees C RT M k0 hk0 hk)
