def fv_X2_copyFrom_55 : Nat → Nat → Nat → Int32 → ps_M → ps_M
  | 0, _, _, _, M => M
  | n + 1, k0, k1, x2, M => if (12 : Int32) ≤ x2 then M else (fv_X2_copyFrom_55 n k0 k1 (x2 + (1 : Int32)) (fv_X1_copyFrom ((k0 + 14) + 1 + (x2).toNatClampNeg) ((k1 + 14) + 1 + (x2).toNatClampNeg) M))
theorem fv_X2_copyFrom_55_s (n : Nat) (k0 : Nat) (k1 : Nat) (x2 : Int32) (M : ps_M) : fv_X2_copyFrom_55 (n + 1) k0 k1 x2 M = (if (12 : Int32) ≤ x2 then M else (fv_X2_copyFrom_55 n k0 k1 (x2 + (1 : Int32)) (fv_X1_copyFrom ((k0 + 14) + 1 + (x2).toNatClampNeg) ((k1 + 14) + 1 + (x2).toNatClampNeg) M))) := rfl
def ok_X2_copyFrom_55 : Nat → Nat → Nat → Int32 → ps_M → Prop
  | 0, _, _, _, _ => False
  | n + 1, k0, k1, x2, M => ((12 : Int32) ≤ x2 → True) ∧ (¬ ((12 : Int32) ≤ x2) → ((vp_in x2 12) ∧ ((vp_in x2 12) ∧ ((ok_X1_copyFrom ((k0 + 14) + 1 + (x2).toNatClampNeg) ((k1 + 14) + 1 + (x2).toNatClampNeg) M) ∧ (ok_X2_copyFrom_55 n k0 k1 (x2 + (1 : Int32)) (fv_X1_copyFrom ((k0 + 14) + 1 + (x2).toNatClampNeg) ((k1 + 14) + 1 + (x2).toNatClampNeg) M))))))
theorem ok_X2_copyFrom_55_s (n : Nat) (k0 : Nat) (k1 : Nat) (x2 : Int32) (M : ps_M) : ok_X2_copyFrom_55 (n + 1) k0 k1 x2 M = (((12 : Int32) ≤ x2 → True) ∧ (¬ ((12 : Int32) ≤ x2) → ((vp_in x2 12) ∧ ((vp_in x2 12) ∧ ((ok_X1_copyFrom ((k0 + 14) + 1 + (x2).toNatClampNeg) ((k1 + 14) + 1 + (x2).toNatClampNeg) M) ∧ (ok_X2_copyFrom_55 n k0 k1 (x2 + (1 : Int32)) (fv_X1_copyFrom ((k0 + 14) + 1 + (x2).toNatClampNeg) ((k1 + 14) + 1 + (x2).toNatClampNeg) M))))))) := rfl
set_option maxRecDepth 100000 in
set_option maxHeartbeats 4000000 in
theorem bw_X2_copyFrom_55 {E : ps_E} {X : ps_X ps_M} (C : ps_C (ps_Yc E) X cX2_copyFrom RX2 none 2 39 3) (RT : ps_RV (ps_Yc E) X cX2_copyFrom) : ∀ (n : Nat) (k0 : Nat) (k1 : Nat) (x2 : Int32) (hk0 : ps_kd k0 = 2) (hk1 : ps_kd k1 = 2) (M : ps_M), ok_X2_copyFrom_55 n k0 k1 x2 M → ps_G (ps_Yc E) X (fv_X2_copyFrom_55 n k0 k1 x2 M) 55 [(0, .ref (ps_ad E k0)), (1, .ref (ps_ad E k1)), (2, .int x2)] [] M := by
  intro n
  induction n with
  | zero => intro k0 k1 x2 hk0 hk1 M h; exact h.elim
  | succ n ih =>
    intro k0 k1 x2 hk0 hk1 M hk
    rw [fv_X2_copyFrom_55_s]
    rw [ok_X2_copyFrom_55_s] at hk
    refine gw_iload_n C 56 dX2_copyFrom_55 2 rfl rfl ?_
    refine gw_bipush C 58 dX2_copyFrom_56 (v := 12) (by decide) rfl ?_
    refine gw_ic_ge C 82 61 dX2_copyFrom_58 (by decide) rfl (fun c58 => ?_) (fun c58 => ?_)
    · exact RT _ _ _ dX2_copyFrom_82
    · refine gw_aload_n C 62 dX2_copyFrom_61 0 rfl rfl ?_
      refine gf_X2_20 C 65 dX2_copyFrom_62 rfl hk0 ?_
      refine gw_iload_n C 66 dX2_copyFrom_65 2 rfl rfl ?_
      refine gw_alK C 67 dX2_copyFrom_66 rfl (kd_d14 hk0) (hk.2 c58).1 ?_
      refine gw_aload_n C 68 dX2_copyFrom_67 1 rfl rfl ?_
      refine gf_X2_20 C 71 dX2_copyFrom_68 rfl hk1 ?_
      refine gw_iload_n C 72 dX2_copyFrom_71 2 rfl rfl ?_
      refine gw_alK C 73 dX2_copyFrom_72 rfl (kd_d14 hk1) (hk.2 c58).2.1 ?_
      refine gw_cVv C 76 dX2_copyFrom_73 rfl yv_X1_copyFrom lk_X2_39 [.ref (ps_ad E ((k1 + 14) + 1 + (x2).toNatClampNeg))] [] rfl (ct_X1_copyFrom (E := E) (l := ps_l X) ((k0 + 14) + 1 + (x2).toNatClampNeg) ((k1 + 14) + 1 + (x2).toNatClampNeg) (kd_K (kd_d14 hk0) (hk.2 c58).1) (kd_K (kd_d14 hk1) (hk.2 c58).2.1) M (hk.2 c58).2.2.1) (rc_K (kd_K (kd_d14 hk0) (hk.2 c58).1)) rfl (Nat.le_of_ble_eq_true rfl) (Nat.le_of_ble_eq_true rfl) (Nat.le_of_ble_eq_true rfl) ?_
      refine gw_iinc C 79 dX2_copyFrom_76 rfl (y := 1) (by decide) rfl 2 rfl [(0, .ref (ps_ad E k0)), (1, .ref (ps_ad E k1)), (2, .int (x2 + (1 : Int32)))] [1, 2, 0] (by decide) rfl ?_
      refine gw_goto C 55 dX2_copyFrom_79 (by decide) ?_
      exact ih k0 k1 (x2 + (1 : Int32)) hk0 hk1 (fv_X1_copyFrom ((k0 + 14) + 1 + (x2).toNatClampNeg) ((k1 + 14) + 1 + (x2).toNatClampNeg) M) (hk.2 c58).2.2.2
def fv_X2_copyFrom_26 : Nat → Nat → Nat → Int32 → ps_M → ps_M
  | 0, _, _, _, M => M
  | n + 1, k0, k1, x2, M => if (6 : Int32) ≤ x2 then (fv_X2_copyFrom_55 ps_FU k0 k1 (0 : Int32) M) else (fv_X2_copyFrom_26 n k0 k1 (x2 + (1 : Int32)) (fv_X4_copyFrom ((k0 + 1) + 1 + 2 * (x2).toNatClampNeg) ((k1 + 1) + 1 + 2 * (x2).toNatClampNeg) M))
theorem fv_X2_copyFrom_26_s (n : Nat) (k0 : Nat) (k1 : Nat) (x2 : Int32) (M : ps_M) : fv_X2_copyFrom_26 (n + 1) k0 k1 x2 M = (if (6 : Int32) ≤ x2 then (fv_X2_copyFrom_55 ps_FU k0 k1 (0 : Int32) M) else (fv_X2_copyFrom_26 n k0 k1 (x2 + (1 : Int32)) (fv_X4_copyFrom ((k0 + 1) + 1 + 2 * (x2).toNatClampNeg) ((k1 + 1) + 1 + 2 * (x2).toNatClampNeg) M))) := rfl
def ok_X2_copyFrom_26 : Nat → Nat → Nat → Int32 → ps_M → Prop
  | 0, _, _, _, _ => False
  | n + 1, k0, k1, x2, M => ((6 : Int32) ≤ x2 → (ok_X2_copyFrom_55 ps_FU k0 k1 (0 : Int32) M)) ∧ (¬ ((6 : Int32) ≤ x2) → ((vp_in x2 6) ∧ ((vp_in x2 6) ∧ ((ok_X4_copyFrom ((k0 + 1) + 1 + 2 * (x2).toNatClampNeg) ((k1 + 1) + 1 + 2 * (x2).toNatClampNeg) M) ∧ (ok_X2_copyFrom_26 n k0 k1 (x2 + (1 : Int32)) (fv_X4_copyFrom ((k0 + 1) + 1 + 2 * (x2).toNatClampNeg) ((k1 + 1) + 1 + 2 * (x2).toNatClampNeg) M))))))
theorem ok_X2_copyFrom_26_s (n : Nat) (k0 : Nat) (k1 : Nat) (x2 : Int32) (M : ps_M) : ok_X2_copyFrom_26 (n + 1) k0 k1 x2 M = (((6 : Int32) ≤ x2 → (ok_X2_copyFrom_55 ps_FU k0 k1 (0 : Int32) M)) ∧ (¬ ((6 : Int32) ≤ x2) → ((vp_in x2 6) ∧ ((vp_in x2 6) ∧ ((ok_X4_copyFrom ((k0 + 1) + 1 + 2 * (x2).toNatClampNeg) ((k1 + 1) + 1 + 2 * (x2).toNatClampNeg) M) ∧ (ok_X2_copyFrom_26 n k0 k1 (x2 + (1 : Int32)) (fv_X4_copyFrom ((k0 + 1) + 1 + 2 * (x2).toNatClampNeg) ((k1 + 1) + 1 + 2 * (x2).toNatClampNeg) M))))))) := rfl
set_option maxRecDepth 100000 in
set_option maxHeartbeats 4000000 in
theorem bw_X2_copyFrom_26 {E : ps_E} {X : ps_X ps_M} (C : ps_C (ps_Yc E) X cX2_copyFrom RX2 none 2 39 3) (RT : ps_RV (ps_Yc E) X cX2_copyFrom) : ∀ (n : Nat) (k0 : Nat) (k1 : Nat) (x2 : Int32) (hk0 : ps_kd k0 = 2) (hk1 : ps_kd k1 = 2) (M : ps_M), ok_X2_copyFrom_26 n k0 k1 x2 M → ps_G (ps_Yc E) X (fv_X2_copyFrom_26 n k0 k1 x2 M) 26 [(0, .ref (ps_ad E k0)), (1, .ref (ps_ad E k1)), (2, .int x2)] [] M := by
  intro n
  induction n with
  | zero => intro k0 k1 x2 hk0 hk1 M h; exact h.elim
  | succ n ih =>
    intro k0 k1 x2 hk0 hk1 M hk
    rw [fv_X2_copyFrom_26_s]
    rw [ok_X2_copyFrom_26_s] at hk
    refine gw_iload_n C 27 dX2_copyFrom_26 2 rfl rfl ?_
    refine gw_bipush C 29 dX2_copyFrom_27 (v := 6) (by decide) rfl ?_
    refine gw_ic_ge C 53 32 dX2_copyFrom_29 (by decide) rfl (fun c29 => ?_) (fun c29 => ?_)
    · refine gw_iconst C 54 dX2_copyFrom_53 (v := 0) (by decide) rfl ?_
      refine gw_istore_n C 55 dX2_copyFrom_54 rfl [(0, .ref (ps_ad E k0)), (1, .ref (ps_ad E k1)), (2, .int (0 : Int32))] [1, 2, 0] (by decide) rfl ?_
      exact bw_X2_copyFrom_55 C RT  ps_FU k0 k1 (0 : Int32) hk0 hk1 M (hk.1 c29)
    · refine gw_aload_n C 33 dX2_copyFrom_32 0 rfl rfl ?_
      refine gf_X2_11 C 36 dX2_copyFrom_33 rfl hk0 ?_
      refine gw_iload_n C 37 dX2_copyFrom_36 2 rfl rfl ?_
      refine gw_alS C 38 dX2_copyFrom_37 rfl (kd_d1 hk0) (hk.2 c29).1 ?_
      refine gw_aload_n C 39 dX2_copyFrom_38 1 rfl rfl ?_
      refine gf_X2_11 C 42 dX2_copyFrom_39 rfl hk1 ?_
      refine gw_iload_n C 43 dX2_copyFrom_42 2 rfl rfl ?_
      refine gw_alS C 44 dX2_copyFrom_43 rfl (kd_d1 hk1) (hk.2 c29).2.1 ?_
      refine gw_cVv C 47 dX2_copyFrom_44 rfl yv_X4_copyFrom lk_X2_35 [.ref (ps_ad E ((k1 + 1) + 1 + 2 * (x2).toNatClampNeg))] [] rfl (ct_X4_copyFrom (E := E) (l := ps_l X) ((k0 + 1) + 1 + 2 * (x2).toNatClampNeg) ((k1 + 1) + 1 + 2 * (x2).toNatClampNeg) (kd_S (kd_d1 hk0) (hk.2 c29).1) (kd_S (kd_d1 hk1) (hk.2 c29).2.1) M (hk.2 c29).2.2.1) (rc_S (kd_S (kd_d1 hk0) (hk.2 c29).1)) rfl (Nat.le_of_ble_eq_true rfl) (Nat.le_of_ble_eq_true rfl) (Nat.le_of_ble_eq_true rfl) ?_
      refine gw_iinc C 50 dX2_copyFrom_47 rfl (y := 1) (by decide) rfl 2 rfl [(0, .ref (ps_ad E k0)), (1, .ref (ps_ad E k1)), (2, .int (x2 + (1 : Int32)))] [1, 2, 0] (by decide) rfl ?_
      refine gw_goto C 26 dX2_copyFrom_50 (by decide) ?_
      exact ih k0 k1 (x2 + (1 : Int32)) hk0 hk1 (fv_X4_copyFrom ((k0 + 1) + 1 + 2 * (x2).toNatClampNeg) ((k1 + 1) + 1 + 2 * (x2).toNatClampNeg) M) (hk.2 c29).2.2.2
def fv_X2_copyFrom_24 (k0 : Nat) (k1 : Nat) (M : ps_M) : ps_M := fv_X2_copyFrom_26 ps_FU k0 k1 (0 : Int32) M
def ok_X2_copyFrom_24 (k0 : Nat) (k1 : Nat) (M : ps_M) : Prop := ok_X2_copyFrom_26 ps_FU k0 k1 (0 : Int32) M
set_option maxRecDepth 100000 in
set_option maxHeartbeats 4000000 in
theorem bw_X2_copyFrom_24 {E : ps_E} {X : ps_X ps_M} (C : ps_C (ps_Yc E) X cX2_copyFrom RX2 none 2 39 3) (RT : ps_RV (ps_Yc E) X cX2_copyFrom) (k0 : Nat) (k1 : Nat) (hk0 : ps_kd k0 = 2) (hk1 : ps_kd k1 = 2) (M : ps_M) (hk : ok_X2_copyFrom_24 k0 k1 M) : ps_G (ps_Yc E) X (fv_X2_copyFrom_24 k0 k1 M) 24 [(0, .ref (ps_ad E k0)), (1, .ref (ps_ad E k1))] [] M := by
  unfold fv_X2_copyFrom_24
  unfold ok_X2_copyFrom_24 at hk
  refine gw_iconst C 25 dX2_copyFrom_24 (v := 0) (by decide) rfl ?_
  refine gw_istore_n C 26 dX2_copyFrom_25 rfl [(0, .ref (ps_ad E k0)), (1, .ref (ps_ad E k1)), (2, .int (0 : Int32))] [1, 2, 0] (by decide) rfl ?_
  exact bw_X2_copyFrom_26 C RT  ps_FU k0 k1 (0 : Int32) hk0 hk1 M hk
def fv_X2_copyFrom (k0 : Nat) (k1 : Nat) (M : ps_M) : ps_M := fv_X2_copyFrom_24 k0 k1 (ps_st (ps_st (ps_st M k0 0 (M k1 0)) k0 1 ((ps_st M k0 0 (M k1 0)) k1 1)) k0 2 ((ps_st (ps_st M k0 0 (M k1 0)) k0 1 ((ps_st M k0 0 (M k1 0)) k1 1)) k1 2))
def ok_X2_copyFrom (k0 : Nat) (k1 : Nat) (M : ps_M) : Prop := ok_X2_copyFrom_24 k0 k1 (ps_st (ps_st (ps_st M k0 0 (M k1 0)) k0 1 ((ps_st M k0 0 (M k1 0)) k1 1)) k0 2 ((ps_st (ps_st M k0 0 (M k1 0)) k0 1 ((ps_st M k0 0 (M k1 0)) k1 1)) k1 2))
set_option maxRecDepth 100000 in
set_option maxHeartbeats 4000000 in
theorem bw_X2_copyFrom {E : ps_E} {X : ps_X ps_M} (C : ps_C (ps_Yc E) X cX2_copyFrom RX2 none 2 39 3) (RT : ps_RV (ps_Yc E) X cX2_copyFrom) (k0 : Nat) (k1 : Nat) (hk0 : ps_kd k0 = 2) (hk1 : ps_kd k1 = 2) (M : ps_M) (hk : ok_X2_copyFrom k0 k1 M) : ps_G (ps_Yc E) X (fv_X2_copyFrom k0 k1 M) 0 [(0, .ref (ps_ad E k0)), (1, .ref (ps_ad E k1))] [] M := by
  unfold fv_X2_copyFrom
  unfold ok_X2_copyFrom at hk
  refine gw_aload_n C 1 dX2_copyFrom_0 0 rfl rfl ?_
  refine gw_aload_n C 2 dX2_copyFrom_1 1 rfl rfl ?_
  refine gf_X2_25 C 5 dX2_copyFrom_2 rfl hk1 ?_
  refine pf_X2_25 C 8 dX2_copyFrom_5 rfl hk0 ?_
  refine gw_aload_n C 9 dX2_copyFrom_8 0 rfl rfl ?_
  refine gw_aload_n C 10 dX2_copyFrom_9 1 rfl rfl ?_
  refine gf_X2_29 C 13 dX2_copyFrom_10 rfl hk1 ?_
  refine pf_X2_29 C 16 dX2_copyFrom_13 rfl hk0 ?_
  refine gw_aload_n C 17 dX2_copyFrom_16 0 rfl rfl ?_
  refine gw_aload_n C 18 dX2_copyFrom_17 1 rfl rfl ?_
  refine gf_X2_32 C 21 dX2_copyFrom_18 rfl hk1 ?_
  refine pf_X2_32 C 24 dX2_copyFrom_21 rfl hk0 ?_
  exact bw_X2_copyFrom_24 C RT  k0 k1 hk0 hk1 (ps_st (ps_st (ps_st M k0 0 (M k1 0)) k0 1 ((ps_st M k0 0 (M k1 0)) k1 1)) k0 2 ((ps_st (ps_st M k0 0 (M k1 0)) k0 1 ((ps_st M k0 0 (M k1 0)) k1 1)) k1 2)) hk
theorem ct_X2_copyFrom {E : ps_E} {l : Launch} (k0 : Nat) (k1 : Nat) (hk0 : ps_kd k0 = 2) (hk1 : ps_kd k1 = 2) (M : ps_M) (hk : ok_X2_copyFrom k0 k1 M) : ps_CV (ps_Yc E) l yX2_copyFrom cX2_copyFrom 3 2 39 [.ref (ps_ad E k0), .ref (ps_ad E k1)] M (fv_X2_copyFrom k0 k1 M) := ps_metV RX2 (by decide) rfl (Nat.le_of_ble_eq_true rfl) rfl (fun X _ C RT => bw_X2_copyFrom C RT k0 k1 hk0 hk1 M hk)
def fv_X2_engageClerk_26 (k0 : Nat) (M : ps_M) : Int32 × ps_M := ((((ps_st M k0 2 ((M k0 2) + (1 : Int32))) k0 2) - (1 : Int32)), (ps_st M k0 2 ((M k0 2) + (1 : Int32))))
def ok_X2_engageClerk_26 (k0 : Nat) (M : ps_M) : Prop := True
set_option maxRecDepth 100000 in
set_option maxHeartbeats 4000000 in
theorem bw_X2_engageClerk_26 {E : ps_E} {X : ps_X (Int32 × ps_M)} (C : ps_C (ps_Yc E) X cX2_engageClerk RX2 (some .int) 0 0 3) (RT : ps_RI (ps_Yc E) X cX2_engageClerk .int) (k0 : Nat) (hk0 : ps_kd k0 = 2) (M : ps_M) (hk : ok_X2_engageClerk_26 k0 M) : ps_G (ps_Yc E) X (fv_X2_engageClerk_26 k0 M) 26 [(0, .ref (ps_ad E k0))] [] M := by
  unfold fv_X2_engageClerk_26
  unfold ok_X2_engageClerk_26 at hk
  refine gw_aload_n C 27 dX2_engageClerk_26 0 rfl rfl ?_
  refine gw_dup C 28 dX2_engageClerk_27 rfl rfl ?_
  refine gf_X2_32 C 31 dX2_engageClerk_28 rfl hk0 ?_
  refine gw_iconst C 32 dX2_engageClerk_31 (v := 1) (by decide) rfl ?_
  refine gw_iadd C 33 dX2_engageClerk_32 rfl ?_
  refine pf_X2_32 C 36 dX2_engageClerk_33 rfl hk0 ?_
  refine gw_aload_n C 37 dX2_engageClerk_36 0 rfl rfl ?_
  refine gf_X2_32 C 40 dX2_engageClerk_37 rfl hk0 ?_
  refine gw_iconst C 41 dX2_engageClerk_40 (v := 1) (by decide) rfl ?_
  refine gw_isub C 42 dX2_engageClerk_41 rfl ?_
  exact RT _ _ _ _ dX2_engageClerk_42 rfl
def fv_X2_engageClerk (k0 : Nat) (x1 : Int32) (x2 : Int32) (M : ps_M) : Int32 × ps_M := fv_X2_engageClerk_26 k0 (ps_st (ps_st M ((k0 + 14) + 1 + ((M k0 2)).toNatClampNeg) 0 x1) ((k0 + 14) + 1 + (((ps_st M ((k0 + 14) + 1 + ((M k0 2)).toNatClampNeg) 0 x1) k0 2)).toNatClampNeg) 1 x2)
def ok_X2_engageClerk (k0 : Nat) (x1 : Int32) (x2 : Int32) (M : ps_M) : Prop := (vp_in (M k0 2) 12) ∧ ((vp_in ((ps_st M ((k0 + 14) + 1 + ((M k0 2)).toNatClampNeg) 0 x1) k0 2) 12) ∧ (ok_X2_engageClerk_26 k0 (ps_st (ps_st M ((k0 + 14) + 1 + ((M k0 2)).toNatClampNeg) 0 x1) ((k0 + 14) + 1 + (((ps_st M ((k0 + 14) + 1 + ((M k0 2)).toNatClampNeg) 0 x1) k0 2)).toNatClampNeg) 1 x2)))
set_option maxRecDepth 100000 in
set_option maxHeartbeats 4000000 in
theorem bw_X2_engageClerk {E : ps_E} {X : ps_X (Int32 × ps_M)} (C : ps_C (ps_Yc E) X cX2_engageClerk RX2 (some .int) 0 0 3) (RT : ps_RI (ps_Yc E) X cX2_engageClerk .int) (k0 : Nat) (x1 : Int32) (x2 : Int32) (hk0 : ps_kd k0 = 2) (M : ps_M) (hk : ok_X2_engageClerk k0 x1 x2 M) : ps_G (ps_Yc E) X (fv_X2_engageClerk k0 x1 x2 M) 0 [(0, .ref (ps_ad E k0)), (1, .int x1), (2, .int x2)] [] M := by
  unfold fv_X2_engageClerk
  unfold ok_X2_engageClerk at hk
  refine gw_aload_n C 1 dX2_engageClerk_0 0 rfl rfl ?_
  refine gf_X2_20 C 4 dX2_engageClerk_1 rfl hk0 ?_
  refine gw_aload_n C 5 dX2_engageClerk_4 0 rfl rfl ?_
  refine gf_X2_32 C 8 dX2_engageClerk_5 rfl hk0 ?_
  refine gw_alK C 9 dX2_engageClerk_8 rfl (kd_d14 hk0) hk.1 ?_
  refine gw_iload_n C 10 dX2_engageClerk_9 1 rfl rfl ?_
  refine pf_X2_42 C 13 dX2_engageClerk_10 rfl (kd_K (kd_d14 hk0) hk.1) ?_
  refine gw_aload_n C 14 dX2_engageClerk_13 0 rfl rfl ?_
  refine gf_X2_20 C 17 dX2_engageClerk_14 rfl hk0 ?_
  refine gw_aload_n C 18 dX2_engageClerk_17 0 rfl rfl ?_
  refine gf_X2_32 C 21 dX2_engageClerk_18 rfl hk0 ?_
  refine gw_alK C 22 dX2_engageClerk_21 rfl (kd_d14 hk0) hk.2.1 ?_
  refine gw_iload_n C 23 dX2_engageClerk_22 2 rfl rfl ?_
  refine pf_X2_45 C 26 dX2_engageClerk_23 rfl (kd_K (kd_d14 hk0) hk.2.1) ?_
  refine gw_sub C [(0, .ref (ps_ad E k0))] [0] rfl ?_
  exact bw_X2_engageClerk_26 C RT  k0 hk0 (ps_st (ps_st M ((k0 + 14) + 1 + ((M k0 2)).toNatClampNeg) 0 x1) ((k0 + 14) + 1 + (((ps_st M ((k0 + 14) + 1 + ((M k0 2)).toNatClampNeg) 0 x1) k0 2)).toNatClampNeg) 1 x2) hk.2.2
theorem ct_X2_engageClerk {E : ps_E} {l : Launch} (k0 : Nat) (x1 : Int32) (x2 : Int32) (hk0 : ps_kd k0 = 2) (M : ps_M) (hk : ok_X2_engageClerk k0 x1 x2 M) : ps_CI (ps_Yc E) l yX2_engageClerk cX2_engageClerk 3 (some .int) 0 0 [.ref (ps_ad E k0), .int x1, .int x2] M (fv_X2_engageClerk k0 x1 x2 M) := ps_metI RX2 (by decide) rfl (Nat.le_of_ble_eq_true rfl) rfl (fun X _ C RT => bw_X2_engageClerk C RT k0 x1 x2 hk0 M hk)
def fv_X2_hasStation (k0 : Nat) (x1 : Int32) (M : ps_M) : Int32 := if x1 < 0 then ((0 : Int32)) else (if (M k0 1) ≤ x1 then ((0 : Int32)) else ((1 : Int32)))
def ok_X2_hasStation (k0 : Nat) (x1 : Int32) (M : ps_M) : Prop := True
set_option maxRecDepth 100000 in
set_option maxHeartbeats 4000000 in
theorem bw_X2_hasStation {E : ps_E} {X : ps_X (Int32 × ps_M)} (C : ps_C (ps_Yc E) X cX2_hasStation RX2 (some .boolean) 0 0 2) (RT : ps_RI (ps_Yc E) X cX2_hasStation .boolean) (M : ps_M) (k0 : Nat) (x1 : Int32) (hk0 : ps_kd k0 = 2) (hk : ok_X2_hasStation k0 x1 M) : ps_G (ps_Yc E) X (fv_X2_hasStation k0 x1 M, M) 0 [(0, .ref (ps_ad E k0)), (1, .int x1)] [] M := by
  unfold fv_X2_hasStation
  unfold ok_X2_hasStation at hk
  refine gw_iload_n C 1 dX2_hasStation_0 1 rfl rfl ?_
  refine gw_if_ltP C 16 4 dX2_hasStation_1 (by decide) rfl (fun c1 => ?_) (fun c1 => ?_)
  · refine gw_iconst C 17 dX2_hasStation_16 (v := 0) (by decide) rfl ?_
    exact RT _ _ _ _ dX2_hasStation_17 ps_nb0
  · refine gw_iload_n C 5 dX2_hasStation_4 1 rfl rfl ?_
    refine gw_aload_n C 6 dX2_hasStation_5 0 rfl rfl ?_
    refine gf_X2_29 C 9 dX2_hasStation_6 rfl hk0 ?_
    refine gw_ic_geP C 16 12 dX2_hasStation_9 (by decide) rfl (fun c9 => ?_) (fun c9 => ?_)
    · refine gw_iconst C 17 dX2_hasStation_16 (v := 0) (by decide) rfl ?_
      exact RT _ _ _ _ dX2_hasStation_17 ps_nb0
    · refine gw_iconst C 13 dX2_hasStation_12 (v := 1) (by decide) rfl ?_
      refine gw_goto C 17 dX2_hasStation_13 (by decide) ?_
      exact RT _ _ _ _ dX2_hasStation_17 ps_nb1
theorem ct_X2_hasStation {E : ps_E} {l : Launch} (k0 : Nat) (x1 : Int32) (hk0 : ps_kd k0 = 2) (M : ps_M) (hk : ok_X2_hasStation k0 x1 M) : ps_CI (ps_Yc E) l yX2_hasStation cX2_hasStation 2 (some .boolean) 0 0 [.ref (ps_ad E k0), .int x1] M (fv_X2_hasStation k0 x1 M, M) := ps_metI RX2 (by decide) rfl (Nat.le_of_ble_eq_true rfl) rfl (fun X _ C RT => bw_X2_hasStation C RT M k0 x1 hk0 hk)
def fv_X2_hasClerk (k0 : Nat) (x1 : Int32) (M : ps_M) : Int32 := if x1 < 0 then ((0 : Int32)) else (if (M k0 2) ≤ x1 then ((0 : Int32)) else ((1 : Int32)))
def ok_X2_hasClerk (k0 : Nat) (x1 : Int32) (M : ps_M) : Prop := True
set_option maxRecDepth 100000 in
set_option maxHeartbeats 4000000 in
theorem bw_X2_hasClerk {E : ps_E} {X : ps_X (Int32 × ps_M)} (C : ps_C (ps_Yc E) X cX2_hasClerk RX2 (some .boolean) 0 0 2) (RT : ps_RI (ps_Yc E) X cX2_hasClerk .boolean) (M : ps_M) (k0 : Nat) (x1 : Int32) (hk0 : ps_kd k0 = 2) (hk : ok_X2_hasClerk k0 x1 M) : ps_G (ps_Yc E) X (fv_X2_hasClerk k0 x1 M, M) 0 [(0, .ref (ps_ad E k0)), (1, .int x1)] [] M := by
  unfold fv_X2_hasClerk
  unfold ok_X2_hasClerk at hk
  refine gw_iload_n C 1 dX2_hasClerk_0 1 rfl rfl ?_
  refine gw_if_ltP C 16 4 dX2_hasClerk_1 (by decide) rfl (fun c1 => ?_) (fun c1 => ?_)
  · refine gw_iconst C 17 dX2_hasClerk_16 (v := 0) (by decide) rfl ?_
    exact RT _ _ _ _ dX2_hasClerk_17 ps_nb0
  · refine gw_iload_n C 5 dX2_hasClerk_4 1 rfl rfl ?_
    refine gw_aload_n C 6 dX2_hasClerk_5 0 rfl rfl ?_
    refine gf_X2_32 C 9 dX2_hasClerk_6 rfl hk0 ?_
    refine gw_ic_geP C 16 12 dX2_hasClerk_9 (by decide) rfl (fun c9 => ?_) (fun c9 => ?_)
    · refine gw_iconst C 17 dX2_hasClerk_16 (v := 0) (by decide) rfl ?_
      exact RT _ _ _ _ dX2_hasClerk_17 ps_nb0
    · refine gw_iconst C 13 dX2_hasClerk_12 (v := 1) (by decide) rfl ?_
      refine gw_goto C 17 dX2_hasClerk_13 (by decide) ?_
      exact RT _ _ _ _ dX2_hasClerk_17 ps_nb1
theorem ct_X2_hasClerk {E : ps_E} {l : Launch} (k0 : Nat) (x1 : Int32) (hk0 : ps_kd k0 = 2) (M : ps_M) (hk : ok_X2_hasClerk k0 x1 M) : ps_CI (ps_Yc E) l yX2_hasClerk cX2_hasClerk 2 (some .boolean) 0 0 [.ref (ps_ad E k0), .int x1] M (fv_X2_hasClerk k0 x1 M, M) := ps_metI RX2 (by decide) rfl (Nat.le_of_ble_eq_true rfl) rfl (fun X _ C RT => bw_X2_hasClerk C RT M k0 x1 hk0 hk)
def fv_X2_clerksAt_4 : Nat → Nat → Int32 → Int32 → Int32 → ps_M → Int32
  | 0, _, _, _, _, M => 0
  | n + 1, k0, x1, x2, x3, M => if (M k0 2) ≤ x3 then x2 else (if (M ((k0 + 14) + 1 + (x3).toNatClampNeg) 2) = x1 then (fv_X2_clerksAt_4 n k0 x1 (x2 + (1 : Int32)) (x3 + (1 : Int32)) M) else (fv_X2_clerksAt_4 n k0 x1 x2 (x3 + (1 : Int32)) M))
theorem fv_X2_clerksAt_4_s (n : Nat) (k0 : Nat) (x1 : Int32) (x2 : Int32) (x3 : Int32) (M : ps_M) : fv_X2_clerksAt_4 (n + 1) k0 x1 x2 x3 M = (if (M k0 2) ≤ x3 then x2 else (if (M ((k0 + 14) + 1 + (x3).toNatClampNeg) 2) = x1 then (fv_X2_clerksAt_4 n k0 x1 (x2 + (1 : Int32)) (x3 + (1 : Int32)) M) else (fv_X2_clerksAt_4 n k0 x1 x2 (x3 + (1 : Int32)) M))) := rfl
def ok_X2_clerksAt_4 : Nat → Nat → Int32 → Int32 → Int32 → ps_M → Prop
  | 0, _, _, _, _, _ => False
  | n + 1, k0, x1, x2, x3, M => ((M k0 2) ≤ x3 → True) ∧ (¬ ((M k0 2) ≤ x3) → ((vp_in x3 12) ∧ (((M ((k0 + 14) + 1 + (x3).toNatClampNeg) 2) = x1 → (ok_X2_clerksAt_4 n k0 x1 (x2 + (1 : Int32)) (x3 + (1 : Int32)) M)) ∧ (¬ ((M ((k0 + 14) + 1 + (x3).toNatClampNeg) 2) = x1) → (ok_X2_clerksAt_4 n k0 x1 x2 (x3 + (1 : Int32)) M)))))
theorem ok_X2_clerksAt_4_s (n : Nat) (k0 : Nat) (x1 : Int32) (x2 : Int32) (x3 : Int32) (M : ps_M) : ok_X2_clerksAt_4 (n + 1) k0 x1 x2 x3 M = (((M k0 2) ≤ x3 → True) ∧ (¬ ((M k0 2) ≤ x3) → ((vp_in x3 12) ∧ (((M ((k0 + 14) + 1 + (x3).toNatClampNeg) 2) = x1 → (ok_X2_clerksAt_4 n k0 x1 (x2 + (1 : Int32)) (x3 + (1 : Int32)) M)) ∧ (¬ ((M ((k0 + 14) + 1 + (x3).toNatClampNeg) 2) = x1) → (ok_X2_clerksAt_4 n k0 x1 x2 (x3 + (1 : Int32)) M)))))) := rfl
set_option maxRecDepth 100000 in
set_option maxHeartbeats 4000000 in
theorem bw_X2_clerksAt_4 {E : ps_E} {X : ps_X (Int32 × ps_M)} (C : ps_C (ps_Yc E) X cX2_clerksAt RX2 (some .int) 0 0 4) (RT : ps_RI (ps_Yc E) X cX2_clerksAt .int) (M : ps_M) : ∀ (n : Nat) (k0 : Nat) (x1 : Int32) (x2 : Int32) (x3 : Int32) (hk0 : ps_kd k0 = 2), ok_X2_clerksAt_4 n k0 x1 x2 x3 M → ps_G (ps_Yc E) X (fv_X2_clerksAt_4 n k0 x1 x2 x3 M, M) 4 [(0, .ref (ps_ad E k0)), (1, .int x1), (2, .int x2), (3, .int x3)] [] M := by
  intro n
  induction n with
  | zero => intro k0 x1 x2 x3 hk0 h; exact h.elim
  | succ n ih =>
    intro k0 x1 x2 x3 hk0 hk
    rw [fv_X2_clerksAt_4_s]
    rw [ok_X2_clerksAt_4_s] at hk
    refine gw_iload_n C 5 dX2_clerksAt_4 3 rfl rfl ?_
    refine gw_aload_n C 6 dX2_clerksAt_5 0 rfl rfl ?_
    refine gf_X2_32 C 9 dX2_clerksAt_6 rfl hk0 ?_
    refine gw_ic_geP C 34 12 dX2_clerksAt_9 (by decide) rfl (fun c9 => ?_) (fun c9 => ?_)
    · refine gw_iload_n C 35 dX2_clerksAt_34 2 rfl rfl ?_
      exact RT _ _ _ _ dX2_clerksAt_35 rfl
    · refine gw_aload_n C 13 dX2_clerksAt_12 0 rfl rfl ?_
      refine gf_X2_20 C 16 dX2_clerksAt_13 rfl hk0 ?_
      refine gw_iload_n C 17 dX2_clerksAt_16 3 rfl rfl ?_
      refine gw_alK C 18 dX2_clerksAt_17 rfl (kd_d14 hk0) (hk.2 c9).1 ?_
      refine gf_X2_72 C 21 dX2_clerksAt_18 rfl (kd_K (kd_d14 hk0) (hk.2 c9).1) ?_
      refine gw_iload_n C 22 dX2_clerksAt_21 1 rfl rfl ?_
      refine gw_ic_neP C 28 25 dX2_clerksAt_22 (by decide) rfl (fun c22 => ?_) (fun c22 => ?_)
      · refine gw_iinc C 28 dX2_clerksAt_25 rfl (y := 1) (by decide) rfl 2 rfl [(0, .ref (ps_ad E k0)), (1, .int x1), (2, .int (x2 + (1 : Int32))), (3, .int x3)] [1, 2, 0, 3] (by decide) rfl ?_
        refine gw_iinc C 31 dX2_clerksAt_28 rfl (y := 1) (by decide) rfl 3 rfl [(0, .ref (ps_ad E k0)), (1, .int x1), (2, .int (x2 + (1 : Int32))), (3, .int (x3 + (1 : Int32)))] [1, 2, 3, 0] (by decide) rfl ?_
        refine gw_goto C 4 dX2_clerksAt_31 (by decide) ?_
        exact ih k0 x1 (x2 + (1 : Int32)) (x3 + (1 : Int32)) hk0 ((hk.2 c9).2.1 c22)
      · refine gw_iinc C 31 dX2_clerksAt_28 rfl (y := 1) (by decide) rfl 3 rfl [(0, .ref (ps_ad E k0)), (1, .int x1), (2, .int x2), (3, .int (x3 + (1 : Int32)))] [1, 2, 3, 0] (by decide) rfl ?_
        refine gw_goto C 4 dX2_clerksAt_31 (by decide) ?_
        exact ih k0 x1 x2 (x3 + (1 : Int32)) hk0 ((hk.2 c9).2.2 c22)
def fv_X2_clerksAt (k0 : Nat) (x1 : Int32) (M : ps_M) : Int32 := fv_X2_clerksAt_4 ps_FU k0 x1 (0 : Int32) (0 : Int32) M
def ok_X2_clerksAt (k0 : Nat) (x1 : Int32) (M : ps_M) : Prop := ok_X2_clerksAt_4 ps_FU k0 x1 (0 : Int32) (0 : Int32) M
set_option maxRecDepth 100000 in
set_option maxHeartbeats 4000000 in
theorem bw_X2_clerksAt {E : ps_E} {X : ps_X (Int32 × ps_M)} (C : ps_C (ps_Yc E) X cX2_clerksAt RX2 (some .int) 0 0 4) (RT : ps_RI (ps_Yc E) X cX2_clerksAt .int) (M : ps_M) (k0 : Nat) (x1 : Int32) (hk0 : ps_kd k0 = 2) (hk : ok_X2_clerksAt k0 x1 M) : ps_G (ps_Yc E) X (fv_X2_clerksAt k0 x1 M, M) 0 [(0, .ref (ps_ad E k0)), (1, .int x1)] [] M := by
  unfold fv_X2_clerksAt
  unfold ok_X2_clerksAt at hk
  refine gw_iconst C 1 dX2_clerksAt_0 (v := 0) (by decide) rfl ?_
  refine gw_istore_n C 2 dX2_clerksAt_1 rfl [(0, .ref (ps_ad E k0)), (1, .int x1), (2, .int (0 : Int32))] [1, 2, 0] (by decide) rfl ?_
  refine gw_iconst C 3 dX2_clerksAt_2 (v := 0) (by decide) rfl ?_
  refine gw_istore_n C 4 dX2_clerksAt_3 rfl [(0, .ref (ps_ad E k0)), (1, .int x1), (2, .int (0 : Int32)), (3, .int (0 : Int32))] [1, 2, 3, 0] (by decide) rfl ?_
  exact bw_X2_clerksAt_4 C RT M  ps_FU k0 x1 (0 : Int32) (0 : Int32) hk0 hk
theorem ct_X2_clerksAt {E : ps_E} {l : Launch} (k0 : Nat) (x1 : Int32) (hk0 : ps_kd k0 = 2) (M : ps_M) (hk : ok_X2_clerksAt k0 x1 M) : ps_CI (ps_Yc E) l yX2_clerksAt cX2_clerksAt 4 (some .int) 0 0 [.ref (ps_ad E k0), .int x1] M (fv_X2_clerksAt k0 x1 M, M) := ps_metI RX2 (by decide) rfl (Nat.le_of_ble_eq_true rfl) rfl (fun X _ C RT => bw_X2_clerksAt C RT M k0 x1 hk0 hk)
def fv_X2_letArrive_48 (rec12 : Nat → Int32 → ps_M → ps_M) (k0 : Nat) (x1 : Int32) (M : ps_M) : ps_M := rec12 k0 (x1 + (1 : Int32)) M
def ok_X2_letArrive_48 (rec12 : Nat → Int32 → ps_M → ps_M) (okr12 : Nat → Int32 → ps_M → Prop) (k0 : Nat) (x1 : Int32) (M : ps_M) : Prop := okr12 k0 (x1 + (1 : Int32)) M
set_option maxRecDepth 100000 in
set_option maxHeartbeats 4000000 in
theorem bw_X2_letArrive_48 {E : ps_E} {X : ps_X ps_M} (C : ps_C (ps_Yc E) X cX2_letArrive RX2 none 0 0 2) (RT : ps_RV (ps_Yc E) X cX2_letArrive) (rec12 : Nat → Int32 → ps_M → ps_M) (okr12 : Nat → Int32 → ps_M → Prop) (hr12 : ∀ (k0 : Nat) (x1 : Int32) (hk0 : ps_kd k0 = 2) (M : ps_M), okr12 k0 x1 M → ps_G (ps_Yc E) X (rec12 k0 x1 M) 12 [(0, .ref (ps_ad E k0)), (1, .int x1)] [] M) (k0 : Nat) (x1 : Int32) (hk0 : ps_kd k0 = 2) (M : ps_M) (hk : ok_X2_letArrive_48 rec12 okr12 k0 x1 M) : ps_G (ps_Yc E) X (fv_X2_letArrive_48 rec12 k0 x1 M) 48 [(0, .ref (ps_ad E k0)), (1, .int x1)] [] M := by
  unfold fv_X2_letArrive_48
  unfold ok_X2_letArrive_48 at hk
  refine gw_iinc C 51 dX2_letArrive_48 rfl (y := 1) (by decide) rfl 1 rfl [(0, .ref (ps_ad E k0)), (1, .int (x1 + (1 : Int32)))] [1, 0] (by decide) rfl ?_
  refine gw_goto C 12 dX2_letArrive_51 (by decide) ?_
  exact hr12 k0 (x1 + (1 : Int32)) hk0 M hk
def fv_X2_letArrive_12 : Nat → Nat → Int32 → ps_M → ps_M
  | 0, _, _, M => M
  | n + 1, k0, x1, M => if (M k0 1) ≤ x1 then M else (fv_X2_letArrive_48 (fun b0 a1 M => fv_X2_letArrive_12 n b0 a1 M) k0 x1 (ps_st M ((k0 + 1) + 1 + 2 * (x1).toNatClampNeg) 1 ((M ((k0 + 1) + 1 + 2 * (x1).toNatClampNeg) 1) + (M (((k0 + 1) + 1 + 2 * (x1).toNatClampNeg) + 1) ((M k0 0)).toNatClampNeg))))
theorem fv_X2_letArrive_12_s (n : Nat) (k0 : Nat) (x1 : Int32) (M : ps_M) : fv_X2_letArrive_12 (n + 1) k0 x1 M = (if (M k0 1) ≤ x1 then M else (fv_X2_letArrive_48 (fun b0 a1 M => fv_X2_letArrive_12 n b0 a1 M) k0 x1 (ps_st M ((k0 + 1) + 1 + 2 * (x1).toNatClampNeg) 1 ((M ((k0 + 1) + 1 + 2 * (x1).toNatClampNeg) 1) + (M (((k0 + 1) + 1 + 2 * (x1).toNatClampNeg) + 1) ((M k0 0)).toNatClampNeg))))) := rfl
def ok_X2_letArrive_12 : Nat → Nat → Int32 → ps_M → Prop
  | 0, _, _, _ => False
  | n + 1, k0, x1, M => ((M k0 1) ≤ x1 → True) ∧ (¬ ((M k0 1) ≤ x1) → ((vp_in x1 6) ∧ ((vp_in x1 6) ∧ ((vp_in (M k0 0) 15) ∧ (ok_X2_letArrive_48 (fun b0 a1 M => fv_X2_letArrive_12 n b0 a1 M) (fun b0 a1 M => ok_X2_letArrive_12 n b0 a1 M) k0 x1 (ps_st M ((k0 + 1) + 1 + 2 * (x1).toNatClampNeg) 1 ((M ((k0 + 1) + 1 + 2 * (x1).toNatClampNeg) 1) + (M (((k0 + 1) + 1 + 2 * (x1).toNatClampNeg) + 1) ((M k0 0)).toNatClampNeg))))))))
theorem ok_X2_letArrive_12_s (n : Nat) (k0 : Nat) (x1 : Int32) (M : ps_M) : ok_X2_letArrive_12 (n + 1) k0 x1 M = (((M k0 1) ≤ x1 → True) ∧ (¬ ((M k0 1) ≤ x1) → ((vp_in x1 6) ∧ ((vp_in x1 6) ∧ ((vp_in (M k0 0) 15) ∧ (ok_X2_letArrive_48 (fun b0 a1 M => fv_X2_letArrive_12 n b0 a1 M) (fun b0 a1 M => ok_X2_letArrive_12 n b0 a1 M) k0 x1 (ps_st M ((k0 + 1) + 1 + 2 * (x1).toNatClampNeg) 1 ((M ((k0 + 1) + 1 + 2 * (x1).toNatClampNeg) 1) + (M (((k0 + 1) + 1 + 2 * (x1).toNatClampNeg) + 1) ((M k0 0)).toNatClampNeg))))))))) := rfl
set_option maxRecDepth 100000 in
set_option maxHeartbeats 4000000 in
theorem bw_X2_letArrive_12 {E : ps_E} {X : ps_X ps_M} (C : ps_C (ps_Yc E) X cX2_letArrive RX2 none 0 0 2) (RT : ps_RV (ps_Yc E) X cX2_letArrive) : ∀ (n : Nat) (k0 : Nat) (x1 : Int32) (hk0 : ps_kd k0 = 2) (M : ps_M), ok_X2_letArrive_12 n k0 x1 M → ps_G (ps_Yc E) X (fv_X2_letArrive_12 n k0 x1 M) 12 [(0, .ref (ps_ad E k0)), (1, .int x1)] [] M := by
  intro n
  induction n with
  | zero => intro k0 x1 hk0 M h; exact h.elim
  | succ n ih =>
    intro k0 x1 hk0 M hk
    rw [fv_X2_letArrive_12_s]
    rw [ok_X2_letArrive_12_s] at hk
    refine gw_iload_n C 13 dX2_letArrive_12 1 rfl rfl ?_
    refine gw_aload_n C 14 dX2_letArrive_13 0 rfl rfl ?_
    refine gf_X2_29 C 17 dX2_letArrive_14 rfl hk0 ?_
    refine gw_ic_ge C 54 20 dX2_letArrive_17 (by decide) rfl (fun c17 => ?_) (fun c17 => ?_)
    · exact RT _ _ _ dX2_letArrive_54
    · refine gw_aload_n C 21 dX2_letArrive_20 0 rfl rfl ?_
      refine gf_X2_11 C 24 dX2_letArrive_21 rfl hk0 ?_
      refine gw_iload_n C 25 dX2_letArrive_24 1 rfl rfl ?_
      refine gw_alS C 26 dX2_letArrive_25 rfl (kd_d1 hk0) (hk.2 c17).1 ?_
      refine gw_dup C 27 dX2_letArrive_26 rfl rfl ?_
      refine gf_X2_61 C 30 dX2_letArrive_27 rfl (kd_S (kd_d1 hk0) (hk.2 c17).1) ?_
      refine gw_aload_n C 31 dX2_letArrive_30 0 rfl rfl ?_
      refine gf_X2_11 C 34 dX2_letArrive_31 rfl hk0 ?_
      refine gw_iload_n C 35 dX2_letArrive_34 1 rfl rfl ?_
      refine gw_alS C 36 dX2_letArrive_35 rfl (kd_d1 hk0) (hk.2 c17).2.1 ?_
      refine gf_X2_64 C 39 dX2_letArrive_36 rfl (kd_S (kd_d1 hk0) (hk.2 c17).2.1) ?_
      refine gw_aload_n C 40 dX2_letArrive_39 0 rfl rfl ?_
      refine gf_X2_25 C 43 dX2_letArrive_40 rfl hk0 ?_
      refine gw_ld_i15 C 44 dX2_letArrive_43 rfl (kd_s1 (kd_S (kd_d1 hk0) (hk.2 c17).2.1)) (hk.2 c17).2.2.1 ?_
      refine gw_iadd C 45 dX2_letArrive_44 rfl ?_
      refine pf_X2_61 C 48 dX2_letArrive_45 rfl (kd_S (kd_d1 hk0) (hk.2 c17).1) ?_
      exact bw_X2_letArrive_48 C RT _ _ (fun b0 a1 hk0 M h => ih b0 a1 hk0 M h) k0 x1 hk0 (ps_st M ((k0 + 1) + 1 + 2 * (x1).toNatClampNeg) 1 ((M ((k0 + 1) + 1 + 2 * (x1).toNatClampNeg) 1) + (M (((k0 + 1) + 1 + 2 * (x1).toNatClampNeg) + 1) ((M k0 0)).toNatClampNeg))) (hk.2 c17).2.2.2
def fv_X2_letArrive (k0 : Nat) (M : ps_M) : ps_M := if (M k0 0) < (15 : Int32) then (fv_X2_letArrive_12 ps_FU k0 (0 : Int32) M) else M
def ok_X2_letArrive (k0 : Nat) (M : ps_M) : Prop := ((M k0 0) < (15 : Int32) → (ok_X2_letArrive_12 ps_FU k0 (0 : Int32) M)) ∧ (¬ ((M k0 0) < (15 : Int32)) → True)
set_option maxRecDepth 100000 in
set_option maxHeartbeats 4000000 in
theorem bw_X2_letArrive {E : ps_E} {X : ps_X ps_M} (C : ps_C (ps_Yc E) X cX2_letArrive RX2 none 0 0 2) (RT : ps_RV (ps_Yc E) X cX2_letArrive) (k0 : Nat) (hk0 : ps_kd k0 = 2) (M : ps_M) (hk : ok_X2_letArrive k0 M) : ps_G (ps_Yc E) X (fv_X2_letArrive k0 M) 0 [(0, .ref (ps_ad E k0))] [] M := by
  unfold fv_X2_letArrive
  unfold ok_X2_letArrive at hk
  refine gw_aload_n C 1 dX2_letArrive_0 0 rfl rfl ?_
  refine gf_X2_25 C 4 dX2_letArrive_1 rfl hk0 ?_
  refine gw_bipush C 6 dX2_letArrive_4 (v := 15) (by decide) rfl ?_
  refine gw_ic_lt C 10 9 dX2_letArrive_6 (by decide) rfl (fun c6 => ?_) (fun c6 => ?_)
  · refine gw_iconst C 11 dX2_letArrive_10 (v := 0) (by decide) rfl ?_
    refine gw_istore_n C 12 dX2_letArrive_11 rfl [(0, .ref (ps_ad E k0)), (1, .int (0 : Int32))] [1, 0] (by decide) rfl ?_
    exact bw_X2_letArrive_12 C RT  ps_FU k0 (0 : Int32) hk0 M (hk.1 c6)
  · exact RT _ _ _ dX2_letArrive_9
theorem ct_X2_letArrive {E : ps_E} {l : Launch} (k0 : Nat) (hk0 : ps_kd k0 = 2) (M : ps_M) (hk : ok_X2_letArrive k0 M) : ps_CV (ps_Yc E) l yX2_letArrive cX2_letArrive 2 0 0 [.ref (ps_ad E k0)] M (fv_X2_letArrive k0 M) := ps_metV RX2 (by decide) rfl (Nat.le_of_ble_eq_true rfl) rfl (fun X _ C RT => bw_X2_letArrive C RT k0 hk0 M hk)
def fv_X2_comesBefore (k0 : Nat) (x1 : Int32) (x2 : Int32) (M : ps_M) : Int32 := if ((M ((k0 + 14) + 1 + (x1).toNatClampNeg) 4) - (M ((k0 + 14) + 1 + (x2).toNatClampNeg) 4)) < 0 then ((1 : Int32)) else (if ((M ((k0 + 14) + 1 + (x1).toNatClampNeg) 4) - (M ((k0 + 14) + 1 + (x2).toNatClampNeg) 4)) = 0 then (if x2 ≤ x1 then ((0 : Int32)) else ((1 : Int32))) else ((0 : Int32)))
def ok_X2_comesBefore (k0 : Nat) (x1 : Int32) (x2 : Int32) (M : ps_M) : Prop := (vp_in x1 12) ∧ ((vp_in x2 12) ∧ True)
set_option maxRecDepth 100000 in
set_option maxHeartbeats 4000000 in
theorem bw_X2_comesBefore {E : ps_E} {X : ps_X (Int32 × ps_M)} (C : ps_C (ps_Yc E) X cX2_comesBefore RX2 (some .boolean) 0 0 4) (RT : ps_RI (ps_Yc E) X cX2_comesBefore .boolean) (M : ps_M) (k0 : Nat) (x1 : Int32) (x2 : Int32) (hk0 : ps_kd k0 = 2) (hk : ok_X2_comesBefore k0 x1 x2 M) : ps_G (ps_Yc E) X (fv_X2_comesBefore k0 x1 x2 M, M) 0 [(0, .ref (ps_ad E k0)), (1, .int x1), (2, .int x2)] [] M := by
  unfold fv_X2_comesBefore
  unfold ok_X2_comesBefore at hk
  refine gw_aload_n C 1 dX2_comesBefore_0 0 rfl rfl ?_
  refine gf_X2_20 C 4 dX2_comesBefore_1 rfl hk0 ?_
  refine gw_iload_n C 5 dX2_comesBefore_4 1 rfl rfl ?_
  refine gw_alK C 6 dX2_comesBefore_5 rfl (kd_d14 hk0) hk.1 ?_
  refine gf_X2_102 C 9 dX2_comesBefore_6 rfl (kd_K (kd_d14 hk0) hk.1) ?_
  refine gw_aload_n C 10 dX2_comesBefore_9 0 rfl rfl ?_
  refine gf_X2_20 C 13 dX2_comesBefore_10 rfl hk0 ?_
  refine gw_iload_n C 14 dX2_comesBefore_13 2 rfl rfl ?_
  refine gw_alK C 15 dX2_comesBefore_14 rfl (kd_d14 hk0) hk.2.1 ?_
  refine gf_X2_102 C 18 dX2_comesBefore_15 rfl (kd_K (kd_d14 hk0) hk.2.1) ?_
  refine gw_isub C 19 dX2_comesBefore_18 rfl ?_
  refine gw_istore_n C 20 dX2_comesBefore_19 rfl [(0, .ref (ps_ad E k0)), (1, .int x1), (2, .int x2), (3, .int ((M ((k0 + 14) + 1 + (x1).toNatClampNeg) 4) - (M ((k0 + 14) + 1 + (x2).toNatClampNeg) 4)))] [1, 2, 3, 0] (by decide) rfl ?_
  refine gw_iload_n C 21 dX2_comesBefore_20 3 rfl rfl ?_
  refine gw_if_ltP C 33 24 dX2_comesBefore_21 (by decide) rfl (fun c21 => ?_) (fun c21 => ?_)
  · refine gw_iconst C 34 dX2_comesBefore_33 (v := 1) (by decide) rfl ?_
    refine gw_goto C 38 dX2_comesBefore_34 (by decide) ?_
    exact RT _ _ _ _ dX2_comesBefore_38 ps_nb1
  · refine gw_iload_n C 25 dX2_comesBefore_24 3 rfl rfl ?_
    refine gw_if_neP C 37 28 dX2_comesBefore_25 (by decide) rfl (fun c25 => ?_) (fun c25 => ?_)
    · refine gw_iload_n C 29 dX2_comesBefore_28 1 rfl rfl ?_
      refine gw_iload_n C 30 dX2_comesBefore_29 2 rfl rfl ?_
      refine gw_ic_geP C 37 33 dX2_comesBefore_30 (by decide) rfl (fun c30 => ?_) (fun c30 => ?_)
      · refine gw_iconst C 38 dX2_comesBefore_37 (v := 0) (by decide) rfl ?_
        exact RT _ _ _ _ dX2_comesBefore_38 ps_nb0
      · refine gw_iconst C 34 dX2_comesBefore_33 (v := 1) (by decide) rfl ?_
        refine gw_goto C 38 dX2_comesBefore_34 (by decide) ?_
        exact RT _ _ _ _ dX2_comesBefore_38 ps_nb1
    · refine gw_iconst C 38 dX2_comesBefore_37 (v := 0) (by decide) rfl ?_
      exact RT _ _ _ _ dX2_comesBefore_38 ps_nb0
theorem ct_X2_comesBefore {E : ps_E} {l : Launch} (k0 : Nat) (x1 : Int32) (x2 : Int32) (hk0 : ps_kd k0 = 2) (M : ps_M) (hk : ok_X2_comesBefore k0 x1 x2 M) : ps_CI (ps_Yc E) l yX2_comesBefore cX2_comesBefore 4 (some .boolean) 0 0 [.ref (ps_ad E k0), .int x1, .int x2] M (fv_X2_comesBefore k0 x1 x2 M, M) := ps_metI RX2 (by decide) rfl (Nat.le_of_ble_eq_true rfl) rfl (fun X _ C RT => bw_X2_comesBefore C RT M k0 x1 x2 hk0 hk)
def fv_X2_firstFree_40 (rec5 : Nat → Int32 → Int32 → ps_M → Int32) (k0 : Nat) (x2 : Int32) (M : ps_M) : Int32 := rec5 k0 x2 (x2 + (1 : Int32)) M
def ok_X2_firstFree_40 (rec5 : Nat → Int32 → Int32 → ps_M → Int32) (okr5 : Nat → Int32 → Int32 → ps_M → Prop) (k0 : Nat) (x2 : Int32) (M : ps_M) : Prop := okr5 k0 x2 (x2 + (1 : Int32)) M
set_option maxRecDepth 100000 in
set_option maxHeartbeats 4000000 in
theorem bw_X2_firstFree_40 {E : ps_E} {X : ps_X (Int32 × ps_M)} (C : ps_C (ps_Yc E) X cX2_firstFree RX2 (some .int) 2 40 3) (RT : ps_RI (ps_Yc E) X cX2_firstFree .int) (M : ps_M) (rec5 : Nat → Int32 → Int32 → ps_M → Int32) (okr5 : Nat → Int32 → Int32 → ps_M → Prop) (hr5 : ∀ (k0 : Nat) (x1 : Int32) (x2 : Int32) (hk0 : ps_kd k0 = 2), okr5 k0 x1 x2 M → ps_G (ps_Yc E) X (rec5 k0 x1 x2 M, M) 5 [(0, .ref (ps_ad E k0)), (1, .int x1), (2, .int x2)] [] M) (k0 : Nat) (x2 : Int32) (hk0 : ps_kd k0 = 2) (hk : ok_X2_firstFree_40 rec5 okr5 k0 x2 M) : ps_G (ps_Yc E) X (fv_X2_firstFree_40 rec5 k0 x2 M, M) 40 [(0, .ref (ps_ad E k0)), (2, .int x2)] [] M := by
  unfold fv_X2_firstFree_40
  unfold ok_X2_firstFree_40 at hk
  refine gw_iload_n C 41 dX2_firstFree_40 1 rfl rfl ?_
  refine gw_istore_n C 42 dX2_firstFree_41 rfl [(0, .ref (ps_ad E k0)), (1, .int x2), (2, .int x2)] [1, 0, 2] (by decide) rfl ?_
  refine gw_iinc C 45 dX2_firstFree_42 rfl (y := 1) (by decide) rfl 2 rfl [(0, .ref (ps_ad E k0)), (1, .int x2), (2, .int (x2 + (1 : Int32)))] [1, 2, 0] (by decide) rfl ?_
  refine gw_goto C 5 dX2_firstFree_45 (by decide) ?_
  exact hr5 k0 x2 (x2 + (1 : Int32)) hk0 hk
def fv_X2_firstFree_5 : Nat → Nat → Int32 → Int32 → ps_M → Int32
  | 0, _, _, _, M => 0
  | n + 1, k0, x1, x2, M => if (M k0 2) ≤ x2 then x1 else (if (fv_X1_isFree ((k0 + 14) + 1 + (x2).toNatClampNeg) M) = 0 then (fv_X2_firstFree_5 n k0 x1 (x2 + (1 : Int32)) M) else (if x1 = (-5 : Int32) then (fv_X2_firstFree_40 (fun b0 a1 a2 M => fv_X2_firstFree_5 n b0 a1 a2 M) k0 x2 M) else (if (fv_X2_comesBefore k0 x2 x1 M) = 0 then (fv_X2_firstFree_5 n k0 x1 (x2 + (1 : Int32)) M) else (fv_X2_firstFree_40 (fun b0 a1 a2 M => fv_X2_firstFree_5 n b0 a1 a2 M) k0 x2 M))))
theorem fv_X2_firstFree_5_s (n : Nat) (k0 : Nat) (x1 : Int32) (x2 : Int32) (M : ps_M) : fv_X2_firstFree_5 (n + 1) k0 x1 x2 M = (if (M k0 2) ≤ x2 then x1 else (if (fv_X1_isFree ((k0 + 14) + 1 + (x2).toNatClampNeg) M) = 0 then (fv_X2_firstFree_5 n k0 x1 (x2 + (1 : Int32)) M) else (if x1 = (-5 : Int32) then (fv_X2_firstFree_40 (fun b0 a1 a2 M => fv_X2_firstFree_5 n b0 a1 a2 M) k0 x2 M) else (if (fv_X2_comesBefore k0 x2 x1 M) = 0 then (fv_X2_firstFree_5 n k0 x1 (x2 + (1 : Int32)) M) else (fv_X2_firstFree_40 (fun b0 a1 a2 M => fv_X2_firstFree_5 n b0 a1 a2 M) k0 x2 M))))) := rfl
def ok_X2_firstFree_5 : Nat → Nat → Int32 → Int32 → ps_M → Prop
  | 0, _, _, _, _ => False
  | n + 1, k0, x1, x2, M => ((M k0 2) ≤ x2 → True) ∧ (¬ ((M k0 2) ≤ x2) → ((vp_in x2 12) ∧ ((ok_X1_isFree ((k0 + 14) + 1 + (x2).toNatClampNeg) M) ∧ (((fv_X1_isFree ((k0 + 14) + 1 + (x2).toNatClampNeg) M) = 0 → (ok_X2_firstFree_5 n k0 x1 (x2 + (1 : Int32)) M)) ∧ (¬ ((fv_X1_isFree ((k0 + 14) + 1 + (x2).toNatClampNeg) M) = 0) → ((x1 = (-5 : Int32) → (ok_X2_firstFree_40 (fun b0 a1 a2 M => fv_X2_firstFree_5 n b0 a1 a2 M) (fun b0 a1 a2 M => ok_X2_firstFree_5 n b0 a1 a2 M) k0 x2 M)) ∧ (¬ (x1 = (-5 : Int32)) → ((ok_X2_comesBefore k0 x2 x1 M) ∧ (((fv_X2_comesBefore k0 x2 x1 M) = 0 → (ok_X2_firstFree_5 n k0 x1 (x2 + (1 : Int32)) M)) ∧ (¬ ((fv_X2_comesBefore k0 x2 x1 M) = 0) → (ok_X2_firstFree_40 (fun b0 a1 a2 M => fv_X2_firstFree_5 n b0 a1 a2 M) (fun b0 a1 a2 M => ok_X2_firstFree_5 n b0 a1 a2 M) k0 x2 M)))))))))))
theorem ok_X2_firstFree_5_s (n : Nat) (k0 : Nat) (x1 : Int32) (x2 : Int32) (M : ps_M) : ok_X2_firstFree_5 (n + 1) k0 x1 x2 M = (((M k0 2) ≤ x2 → True) ∧ (¬ ((M k0 2) ≤ x2) → ((vp_in x2 12) ∧ ((ok_X1_isFree ((k0 + 14) + 1 + (x2).toNatClampNeg) M) ∧ (((fv_X1_isFree ((k0 + 14) + 1 + (x2).toNatClampNeg) M) = 0 → (ok_X2_firstFree_5 n k0 x1 (x2 + (1 : Int32)) M)) ∧ (¬ ((fv_X1_isFree ((k0 + 14) + 1 + (x2).toNatClampNeg) M) = 0) → ((x1 = (-5 : Int32) → (ok_X2_firstFree_40 (fun b0 a1 a2 M => fv_X2_firstFree_5 n b0 a1 a2 M) (fun b0 a1 a2 M => ok_X2_firstFree_5 n b0 a1 a2 M) k0 x2 M)) ∧ (¬ (x1 = (-5 : Int32)) → ((ok_X2_comesBefore k0 x2 x1 M) ∧ (((fv_X2_comesBefore k0 x2 x1 M) = 0 → (ok_X2_firstFree_5 n k0 x1 (x2 + (1 : Int32)) M)) ∧ (¬ ((fv_X2_comesBefore k0 x2 x1 M) = 0) → (ok_X2_firstFree_40 (fun b0 a1 a2 M => fv_X2_firstFree_5 n b0 a1 a2 M) (fun b0 a1 a2 M => ok_X2_firstFree_5 n b0 a1 a2 M) k0 x2 M)))))))))))) := rfl
set_option maxRecDepth 100000 in
set_option maxHeartbeats 4000000 in
theorem bw_X2_firstFree_5 {E : ps_E} {X : ps_X (Int32 × ps_M)} (C : ps_C (ps_Yc E) X cX2_firstFree RX2 (some .int) 2 40 3) (RT : ps_RI (ps_Yc E) X cX2_firstFree .int) (M : ps_M) : ∀ (n : Nat) (k0 : Nat) (x1 : Int32) (x2 : Int32) (hk0 : ps_kd k0 = 2), ok_X2_firstFree_5 n k0 x1 x2 M → ps_G (ps_Yc E) X (fv_X2_firstFree_5 n k0 x1 x2 M, M) 5 [(0, .ref (ps_ad E k0)), (1, .int x1), (2, .int x2)] [] M := by
  intro n
  induction n with
  | zero => intro k0 x1 x2 hk0 h; exact h.elim
  | succ n ih =>
    intro k0 x1 x2 hk0 hk
    rw [fv_X2_firstFree_5_s]
    rw [ok_X2_firstFree_5_s] at hk
    refine gw_iload_n C 6 dX2_firstFree_5 2 rfl rfl ?_
    refine gw_aload_n C 7 dX2_firstFree_6 0 rfl rfl ?_
    refine gf_X2_32 C 10 dX2_firstFree_7 rfl hk0 ?_
    refine gw_ic_geP C 48 13 dX2_firstFree_10 (by decide) rfl (fun c10 => ?_) (fun c10 => ?_)
    · refine gw_iload_n C 49 dX2_firstFree_48 1 rfl rfl ?_
      exact RT _ _ _ _ dX2_firstFree_49 rfl
    · refine gw_aload_n C 14 dX2_firstFree_13 0 rfl rfl ?_
      refine gf_X2_20 C 17 dX2_firstFree_14 rfl hk0 ?_
      refine gw_iload_n C 18 dX2_firstFree_17 2 rfl rfl ?_
      refine gw_alK C 19 dX2_firstFree_18 rfl (kd_d14 hk0) (hk.2 c10).1 ?_
      refine gw_cVp C 22 dX2_firstFree_19 rfl yv_X1_isFree lk_X2_95 [] [] rfl (ct_X1_isFree (E := E) (l := ps_l X) ((k0 + 14) + 1 + (x2).toNatClampNeg) (kd_K (kd_d14 hk0) (hk.2 c10).1) M (hk.2 c10).2.1) (rc_K (kd_K (kd_d14 hk0) (hk.2 c10).1)) rfl (Nat.le_of_ble_eq_true rfl) (Nat.le_of_ble_eq_true rfl) (Nat.le_of_ble_eq_true rfl) ?_
      refine gw_if_eqP C 42 25 dX2_firstFree_22 (by decide) rfl (fun c22 => ?_) (fun c22 => ?_)
      · refine gw_iinc C 45 dX2_firstFree_42 rfl (y := 1) (by decide) rfl 2 rfl [(0, .ref (ps_ad E k0)), (1, .int x1), (2, .int (x2 + (1 : Int32)))] [1, 2, 0] (by decide) rfl ?_
        refine gw_goto C 5 dX2_firstFree_45 (by decide) ?_
        exact ih k0 x1 (x2 + (1 : Int32)) hk0 ((hk.2 c10).2.2.1 c22)
      · refine gw_iload_n C 26 dX2_firstFree_25 1 rfl rfl ?_
        refine gw_bipush C 28 dX2_firstFree_26 (v := (-5)) (by decide) rfl ?_
        refine gw_ic_eqP C 40 31 dX2_firstFree_28 (by decide) rfl (fun c28 => ?_) (fun c28 => ?_)
        · refine gw_sub C [(0, .ref (ps_ad E k0)), (2, .int x2)] [0, 2] rfl ?_
          exact bw_X2_firstFree_40 C RT M _ _ (fun b0 a1 a2 hk0 h => ih b0 a1 a2 hk0 h) k0 x2 hk0 (((hk.2 c10).2.2.2 c22).1 c28)
        · refine gw_aload_n C 32 dX2_firstFree_31 0 rfl rfl ?_
          refine gw_iload_n C 33 dX2_firstFree_32 2 rfl rfl ?_
          refine gw_iload_n C 34 dX2_firstFree_33 1 rfl rfl ?_
          refine gw_cVp C 37 dX2_firstFree_34 rfl yv_X2_comesBefore lk_X2_98 [.int x2, .int x1] [] rfl (ct_X2_comesBefore (E := E) (l := ps_l X) k0 x2 x1 hk0 M (((hk.2 c10).2.2.2 c22).2 c28).1) (rc_D hk0) rfl (Nat.le_of_ble_eq_true rfl) (Nat.le_of_ble_eq_true rfl) (Nat.le_of_ble_eq_true rfl) ?_
          refine gw_if_eqP C 42 40 dX2_firstFree_37 (by decide) rfl (fun c37 => ?_) (fun c37 => ?_)
          · refine gw_iinc C 45 dX2_firstFree_42 rfl (y := 1) (by decide) rfl 2 rfl [(0, .ref (ps_ad E k0)), (1, .int x1), (2, .int (x2 + (1 : Int32)))] [1, 2, 0] (by decide) rfl ?_
            refine gw_goto C 5 dX2_firstFree_45 (by decide) ?_
            exact ih k0 x1 (x2 + (1 : Int32)) hk0 ((((hk.2 c10).2.2.2 c22).2 c28).2.1 c37)
          · refine gw_sub C [(0, .ref (ps_ad E k0)), (2, .int x2)] [0, 2] rfl ?_
            exact bw_X2_firstFree_40 C RT M _ _ (fun b0 a1 a2 hk0 h => ih b0 a1 a2 hk0 h) k0 x2 hk0 ((((hk.2 c10).2.2.2 c22).2 c28).2.2 c37)
def fv_X2_firstFree (k0 : Nat) (M : ps_M) : Int32 := fv_X2_firstFree_5 ps_FU k0 (-5 : Int32) (0 : Int32) M
def ok_X2_firstFree (k0 : Nat) (M : ps_M) : Prop := ok_X2_firstFree_5 ps_FU k0 (-5 : Int32) (0 : Int32) M
set_option maxRecDepth 100000 in
set_option maxHeartbeats 4000000 in
theorem bw_X2_firstFree {E : ps_E} {X : ps_X (Int32 × ps_M)} (C : ps_C (ps_Yc E) X cX2_firstFree RX2 (some .int) 2 40 3) (RT : ps_RI (ps_Yc E) X cX2_firstFree .int) (M : ps_M) (k0 : Nat) (hk0 : ps_kd k0 = 2) (hk : ok_X2_firstFree k0 M) : ps_G (ps_Yc E) X (fv_X2_firstFree k0 M, M) 0 [(0, .ref (ps_ad E k0))] [] M := by
  unfold fv_X2_firstFree
  unfold ok_X2_firstFree at hk
  refine gw_bipush C 2 dX2_firstFree_0 (v := (-5)) (by decide) rfl ?_
  refine gw_istore_n C 3 dX2_firstFree_2 rfl [(0, .ref (ps_ad E k0)), (1, .int (-5 : Int32))] [1, 0] (by decide) rfl ?_
  refine gw_iconst C 4 dX2_firstFree_3 (v := 0) (by decide) rfl ?_
  refine gw_istore_n C 5 dX2_firstFree_4 rfl [(0, .ref (ps_ad E k0)), (1, .int (-5 : Int32)), (2, .int (0 : Int32))] [1, 2, 0] (by decide) rfl ?_
  exact bw_X2_firstFree_5 C RT M  ps_FU k0 (-5 : Int32) (0 : Int32) hk0 hk
theorem ct_X2_firstFree {E : ps_E} {l : Launch} (k0 : Nat) (hk0 : ps_kd k0 = 2) (M : ps_M) (hk : ok_X2_firstFree k0 M) : ps_CI (ps_Yc E) l yX2_firstFree cX2_firstFree 3 (some .int) 2 40 [.ref (ps_ad E k0)] M (fv_X2_firstFree k0 M, M) := ps_metI RX2 (by decide) rfl (Nat.le_of_ble_eq_true rfl) rfl (fun X _ C RT => bw_X2_firstFree C RT M k0 hk0 hk)
def fv_X2_changeClerks_63 (rec2 : Nat → Int32 → ps_M → ps_M) (k0 : Nat) (x1 : Int32) (M : ps_M) : ps_M := rec2 k0 (x1 + (1 : Int32)) M
def ok_X2_changeClerks_63 (rec2 : Nat → Int32 → ps_M → ps_M) (okr2 : Nat → Int32 → ps_M → Prop) (k0 : Nat) (x1 : Int32) (M : ps_M) : Prop := okr2 k0 (x1 + (1 : Int32)) M
set_option maxRecDepth 100000 in
set_option maxHeartbeats 4000000 in
theorem bw_X2_changeClerks_63 {E : ps_E} {X : ps_X ps_M} (C : ps_C (ps_Yc E) X cX2_changeClerks RX2 none 3 62 4) (RT : ps_RV (ps_Yc E) X cX2_changeClerks) (rec2 : Nat → Int32 → ps_M → ps_M) (okr2 : Nat → Int32 → ps_M → Prop) (hr2 : ∀ (k0 : Nat) (x1 : Int32) (hk0 : ps_kd k0 = 2) (M : ps_M), okr2 k0 x1 M → ps_G (ps_Yc E) X (rec2 k0 x1 M) 2 [(0, .ref (ps_ad E k0)), (1, .int x1)] [] M) (k0 : Nat) (x1 : Int32) (hk0 : ps_kd k0 = 2) (M : ps_M) (hk : ok_X2_changeClerks_63 rec2 okr2 k0 x1 M) : ps_G (ps_Yc E) X (fv_X2_changeClerks_63 rec2 k0 x1 M) 63 [(0, .ref (ps_ad E k0)), (1, .int x1)] [] M := by
  unfold fv_X2_changeClerks_63
  unfold ok_X2_changeClerks_63 at hk
  refine gw_iinc C 66 dX2_changeClerks_63 rfl (y := 1) (by decide) rfl 1 rfl [(0, .ref (ps_ad E k0)), (1, .int (x1 + (1 : Int32)))] [1, 0] (by decide) rfl ?_
  refine gw_goto C 2 dX2_changeClerks_66 (by decide) ?_
  exact hr2 k0 (x1 + (1 : Int32)) hk0 M hk
def fv_X2_changeClerks_2 : Nat → Nat → Int32 → ps_M → ps_M
  | 0, _, _, M => M
  | n + 1, k0, x1, M => if (M k0 2) ≤ x1 then M else (if (fv_X1_mustLeave ((k0 + 14) + 1 + (x1).toNatClampNeg) M) = 0 then (fv_X2_changeClerks_2 n k0 (x1 + (1 : Int32)) M) else (if (fv_X2_firstFree k0 (fv_X1_leaveDuty ((k0 + 14) + 1 + (x1).toNatClampNeg) (2 : Int32) M)) = (-5 : Int32) then (fv_X2_changeClerks_2 n k0 (x1 + (1 : Int32)) (fv_X1_leaveDuty ((k0 + 14) + 1 + (x1).toNatClampNeg) (2 : Int32) M)) else (fv_X2_changeClerks_63 (fun b0 a1 M => fv_X2_changeClerks_2 n b0 a1 M) k0 x1 (fv_X1_comeTo ((k0 + 14) + 1 + ((fv_X2_firstFree k0 (fv_X1_leaveDuty ((k0 + 14) + 1 + (x1).toNatClampNeg) (2 : Int32) M))).toNatClampNeg) (M ((k0 + 14) + 1 + (x1).toNatClampNeg) 2) (fv_X1_leaveDuty ((k0 + 14) + 1 + (x1).toNatClampNeg) (2 : Int32) M)))))
theorem fv_X2_changeClerks_2_s (n : Nat) (k0 : Nat) (x1 : Int32) (M : ps_M) : fv_X2_changeClerks_2 (n + 1) k0 x1 M = (if (M k0 2) ≤ x1 then M else (if (fv_X1_mustLeave ((k0 + 14) + 1 + (x1).toNatClampNeg) M) = 0 then (fv_X2_changeClerks_2 n k0 (x1 + (1 : Int32)) M) else (if (fv_X2_firstFree k0 (fv_X1_leaveDuty ((k0 + 14) + 1 + (x1).toNatClampNeg) (2 : Int32) M)) = (-5 : Int32) then (fv_X2_changeClerks_2 n k0 (x1 + (1 : Int32)) (fv_X1_leaveDuty ((k0 + 14) + 1 + (x1).toNatClampNeg) (2 : Int32) M)) else (fv_X2_changeClerks_63 (fun b0 a1 M => fv_X2_changeClerks_2 n b0 a1 M) k0 x1 (fv_X1_comeTo ((k0 + 14) + 1 + ((fv_X2_firstFree k0 (fv_X1_leaveDuty ((k0 + 14) + 1 + (x1).toNatClampNeg) (2 : Int32) M))).toNatClampNeg) (M ((k0 + 14) + 1 + (x1).toNatClampNeg) 2) (fv_X1_leaveDuty ((k0 + 14) + 1 + (x1).toNatClampNeg) (2 : Int32) M)))))) := rfl
def ok_X2_changeClerks_2 : Nat → Nat → Int32 → ps_M → Prop
  | 0, _, _, _ => False
  | n + 1, k0, x1, M => ((M k0 2) ≤ x1 → True) ∧ (¬ ((M k0 2) ≤ x1) → ((vp_in x1 12) ∧ ((ok_X1_mustLeave ((k0 + 14) + 1 + (x1).toNatClampNeg) M) ∧ (((fv_X1_mustLeave ((k0 + 14) + 1 + (x1).toNatClampNeg) M) = 0 → (ok_X2_changeClerks_2 n k0 (x1 + (1 : Int32)) M)) ∧ (¬ ((fv_X1_mustLeave ((k0 + 14) + 1 + (x1).toNatClampNeg) M) = 0) → ((vp_in x1 12) ∧ ((vp_in x1 12) ∧ ((ok_X1_leaveDuty ((k0 + 14) + 1 + (x1).toNatClampNeg) (2 : Int32) M) ∧ ((ok_X2_firstFree k0 (fv_X1_leaveDuty ((k0 + 14) + 1 + (x1).toNatClampNeg) (2 : Int32) M)) ∧ (((fv_X2_firstFree k0 (fv_X1_leaveDuty ((k0 + 14) + 1 + (x1).toNatClampNeg) (2 : Int32) M)) = (-5 : Int32) → (ok_X2_changeClerks_2 n k0 (x1 + (1 : Int32)) (fv_X1_leaveDuty ((k0 + 14) + 1 + (x1).toNatClampNeg) (2 : Int32) M))) ∧ (¬ ((fv_X2_firstFree k0 (fv_X1_leaveDuty ((k0 + 14) + 1 + (x1).toNatClampNeg) (2 : Int32) M)) = (-5 : Int32)) → ((vp_in (fv_X2_firstFree k0 (fv_X1_leaveDuty ((k0 + 14) + 1 + (x1).toNatClampNeg) (2 : Int32) M)) 12) ∧ ((ok_X1_comeTo ((k0 + 14) + 1 + ((fv_X2_firstFree k0 (fv_X1_leaveDuty ((k0 + 14) + 1 + (x1).toNatClampNeg) (2 : Int32) M))).toNatClampNeg) (M ((k0 + 14) + 1 + (x1).toNatClampNeg) 2) (fv_X1_leaveDuty ((k0 + 14) + 1 + (x1).toNatClampNeg) (2 : Int32) M)) ∧ (ok_X2_changeClerks_63 (fun b0 a1 M => fv_X2_changeClerks_2 n b0 a1 M) (fun b0 a1 M => ok_X2_changeClerks_2 n b0 a1 M) k0 x1 (fv_X1_comeTo ((k0 + 14) + 1 + ((fv_X2_firstFree k0 (fv_X1_leaveDuty ((k0 + 14) + 1 + (x1).toNatClampNeg) (2 : Int32) M))).toNatClampNeg) (M ((k0 + 14) + 1 + (x1).toNatClampNeg) 2) (fv_X1_leaveDuty ((k0 + 14) + 1 + (x1).toNatClampNeg) (2 : Int32) M))))))))))))))))
theorem ok_X2_changeClerks_2_s (n : Nat) (k0 : Nat) (x1 : Int32) (M : ps_M) : ok_X2_changeClerks_2 (n + 1) k0 x1 M = (((M k0 2) ≤ x1 → True) ∧ (¬ ((M k0 2) ≤ x1) → ((vp_in x1 12) ∧ ((ok_X1_mustLeave ((k0 + 14) + 1 + (x1).toNatClampNeg) M) ∧ (((fv_X1_mustLeave ((k0 + 14) + 1 + (x1).toNatClampNeg) M) = 0 → (ok_X2_changeClerks_2 n k0 (x1 + (1 : Int32)) M)) ∧ (¬ ((fv_X1_mustLeave ((k0 + 14) + 1 + (x1).toNatClampNeg) M) = 0) → ((vp_in x1 12) ∧ ((vp_in x1 12) ∧ ((ok_X1_leaveDuty ((k0 + 14) + 1 + (x1).toNatClampNeg) (2 : Int32) M) ∧ ((ok_X2_firstFree k0 (fv_X1_leaveDuty ((k0 + 14) + 1 + (x1).toNatClampNeg) (2 : Int32) M)) ∧ (((fv_X2_firstFree k0 (fv_X1_leaveDuty ((k0 + 14) + 1 + (x1).toNatClampNeg) (2 : Int32) M)) = (-5 : Int32) → (ok_X2_changeClerks_2 n k0 (x1 + (1 : Int32)) (fv_X1_leaveDuty ((k0 + 14) + 1 + (x1).toNatClampNeg) (2 : Int32) M))) ∧ (¬ ((fv_X2_firstFree k0 (fv_X1_leaveDuty ((k0 + 14) + 1 + (x1).toNatClampNeg) (2 : Int32) M)) = (-5 : Int32)) → ((vp_in (fv_X2_firstFree k0 (fv_X1_leaveDuty ((k0 + 14) + 1 + (x1).toNatClampNeg) (2 : Int32) M)) 12) ∧ ((ok_X1_comeTo ((k0 + 14) + 1 + ((fv_X2_firstFree k0 (fv_X1_leaveDuty ((k0 + 14) + 1 + (x1).toNatClampNeg) (2 : Int32) M))).toNatClampNeg) (M ((k0 + 14) + 1 + (x1).toNatClampNeg) 2) (fv_X1_leaveDuty ((k0 + 14) + 1 + (x1).toNatClampNeg) (2 : Int32) M)) ∧ (ok_X2_changeClerks_63 (fun b0 a1 M => fv_X2_changeClerks_2 n b0 a1 M) (fun b0 a1 M => ok_X2_changeClerks_2 n b0 a1 M) k0 x1 (fv_X1_comeTo ((k0 + 14) + 1 + ((fv_X2_firstFree k0 (fv_X1_leaveDuty ((k0 + 14) + 1 + (x1).toNatClampNeg) (2 : Int32) M))).toNatClampNeg) (M ((k0 + 14) + 1 + (x1).toNatClampNeg) 2) (fv_X1_leaveDuty ((k0 + 14) + 1 + (x1).toNatClampNeg) (2 : Int32) M))))))))))))))))) := rfl
set_option maxRecDepth 100000 in
set_option maxHeartbeats 4000000 in
theorem bw_X2_changeClerks_2 {E : ps_E} {X : ps_X ps_M} (C : ps_C (ps_Yc E) X cX2_changeClerks RX2 none 3 62 4) (RT : ps_RV (ps_Yc E) X cX2_changeClerks) : ∀ (n : Nat) (k0 : Nat) (x1 : Int32) (hk0 : ps_kd k0 = 2) (M : ps_M), ok_X2_changeClerks_2 n k0 x1 M → ps_G (ps_Yc E) X (fv_X2_changeClerks_2 n k0 x1 M) 2 [(0, .ref (ps_ad E k0)), (1, .int x1)] [] M := by
  intro n
  induction n with
  | zero => intro k0 x1 hk0 M h; exact h.elim
  | succ n ih =>
    intro k0 x1 hk0 M hk
    rw [fv_X2_changeClerks_2_s]
    rw [ok_X2_changeClerks_2_s] at hk
    refine gw_iload_n C 3 dX2_changeClerks_2 1 rfl rfl ?_
    refine gw_aload_n C 4 dX2_changeClerks_3 0 rfl rfl ?_
    refine gf_X2_32 C 7 dX2_changeClerks_4 rfl hk0 ?_
    refine gw_ic_ge C 69 10 dX2_changeClerks_7 (by decide) rfl (fun c7 => ?_) (fun c7 => ?_)
    · exact RT _ _ _ dX2_changeClerks_69
    · refine gw_aload_n C 11 dX2_changeClerks_10 0 rfl rfl ?_
      refine gf_X2_20 C 14 dX2_changeClerks_11 rfl hk0 ?_
      refine gw_iload_n C 15 dX2_changeClerks_14 1 rfl rfl ?_
      refine gw_alK C 16 dX2_changeClerks_15 rfl (kd_d14 hk0) (hk.2 c7).1 ?_
      refine gw_cVp C 19 dX2_changeClerks_16 rfl yv_X1_mustLeave lk_X2_68 [] [] rfl (ct_X1_mustLeave (E := E) (l := ps_l X) ((k0 + 14) + 1 + (x1).toNatClampNeg) (kd_K (kd_d14 hk0) (hk.2 c7).1) M (hk.2 c7).2.1) (rc_K (kd_K (kd_d14 hk0) (hk.2 c7).1)) rfl (Nat.le_of_ble_eq_true rfl) (Nat.le_of_ble_eq_true rfl) (Nat.le_of_ble_eq_true rfl) ?_
      refine gw_if_eq C 63 22 dX2_changeClerks_19 (by decide) rfl (fun c19 => ?_) (fun c19 => ?_)
      · refine gw_iinc C 66 dX2_changeClerks_63 rfl (y := 1) (by decide) rfl 1 rfl [(0, .ref (ps_ad E k0)), (1, .int (x1 + (1 : Int32)))] [1, 0] (by decide) rfl ?_
        refine gw_goto C 2 dX2_changeClerks_66 (by decide) ?_
        exact ih k0 (x1 + (1 : Int32)) hk0 M ((hk.2 c7).2.2.1 c19)
      · refine gw_aload_n C 23 dX2_changeClerks_22 0 rfl rfl ?_
        refine gf_X2_20 C 26 dX2_changeClerks_23 rfl hk0 ?_
        refine gw_iload_n C 27 dX2_changeClerks_26 1 rfl rfl ?_
        refine gw_alK C 28 dX2_changeClerks_27 rfl (kd_d14 hk0) ((hk.2 c7).2.2.2 c19).1 ?_
        refine gf_X2_72 C 31 dX2_changeClerks_28 rfl (kd_K (kd_d14 hk0) ((hk.2 c7).2.2.2 c19).1) ?_
        refine gw_istore_n C 32 dX2_changeClerks_31 rfl [(0, .ref (ps_ad E k0)), (1, .int x1), (2, .int (M ((k0 + 14) + 1 + (x1).toNatClampNeg) 2))] [1, 2, 0] (by decide) rfl ?_
        refine gw_aload_n C 33 dX2_changeClerks_32 0 rfl rfl ?_
        refine gf_X2_20 C 36 dX2_changeClerks_33 rfl hk0 ?_
        refine gw_iload_n C 37 dX2_changeClerks_36 1 rfl rfl ?_
        refine gw_alK C 38 dX2_changeClerks_37 rfl (kd_d14 hk0) ((hk.2 c7).2.2.2 c19).2.1 ?_
        refine gw_iconst C 39 dX2_changeClerks_38 (v := 2) (by decide) rfl ?_
        refine gw_cVv C 42 dX2_changeClerks_39 rfl yv_X1_leaveDuty lk_X2_75 [.int (2 : Int32)] [] rfl (ct_X1_leaveDuty (E := E) (l := ps_l X) ((k0 + 14) + 1 + (x1).toNatClampNeg) (2 : Int32) (kd_K (kd_d14 hk0) ((hk.2 c7).2.2.2 c19).2.1) M ((hk.2 c7).2.2.2 c19).2.2.1) (rc_K (kd_K (kd_d14 hk0) ((hk.2 c7).2.2.2 c19).2.1)) rfl (Nat.le_of_ble_eq_true rfl) (Nat.le_of_ble_eq_true rfl) (Nat.le_of_ble_eq_true rfl) ?_
        refine gw_aload_n C 43 dX2_changeClerks_42 0 rfl rfl ?_
        refine gw_cVp C 46 dX2_changeClerks_43 rfl yv_X2_firstFree lk_X2_79 [] [] rfl (ct_X2_firstFree (E := E) (l := ps_l X) k0 hk0 (fv_X1_leaveDuty ((k0 + 14) + 1 + (x1).toNatClampNeg) (2 : Int32) M) ((hk.2 c7).2.2.2 c19).2.2.2.1) (rc_D hk0) rfl (Nat.le_of_ble_eq_true rfl) (Nat.le_of_ble_eq_true rfl) (Nat.le_of_ble_eq_true rfl) ?_
        refine gw_istore_n C 47 dX2_changeClerks_46 rfl [(0, .ref (ps_ad E k0)), (1, .int x1), (2, .int (M ((k0 + 14) + 1 + (x1).toNatClampNeg) 2)), (3, .int (fv_X2_firstFree k0 (fv_X1_leaveDuty ((k0 + 14) + 1 + (x1).toNatClampNeg) (2 : Int32) M)))] [1, 2, 3, 0] (by decide) rfl ?_
        refine gw_iload_n C 48 dX2_changeClerks_47 3 rfl rfl ?_
        refine gw_bipush C 50 dX2_changeClerks_48 (v := (-5)) (by decide) rfl ?_
        refine gw_ic_eq C 63 53 dX2_changeClerks_50 (by decide) rfl (fun c50 => ?_) (fun c50 => ?_)
        · refine gw_iinc C 66 dX2_changeClerks_63 rfl (y := 1) (by decide) rfl 1 rfl [(0, .ref (ps_ad E k0)), (1, .int (x1 + (1 : Int32))), (2, .int (M ((k0 + 14) + 1 + (x1).toNatClampNeg) 2)), (3, .int (fv_X2_firstFree k0 (fv_X1_leaveDuty ((k0 + 14) + 1 + (x1).toNatClampNeg) (2 : Int32) M)))] [1, 0, 2, 3] (by decide) rfl ?_
          refine gw_goto C 2 dX2_changeClerks_66 (by decide) ?_
          refine gw_sub C [(0, .ref (ps_ad E k0)), (1, .int (x1 + (1 : Int32)))] [0, 1] rfl ?_
          exact ih k0 (x1 + (1 : Int32)) hk0 (fv_X1_leaveDuty ((k0 + 14) + 1 + (x1).toNatClampNeg) (2 : Int32) M) (((hk.2 c7).2.2.2 c19).2.2.2.2.1 c50)
        · refine gw_aload_n C 54 dX2_changeClerks_53 0 rfl rfl ?_
          refine gf_X2_20 C 57 dX2_changeClerks_54 rfl hk0 ?_
          refine gw_iload_n C 58 dX2_changeClerks_57 3 rfl rfl ?_
          refine gw_alK C 59 dX2_changeClerks_58 rfl (kd_d14 hk0) (((hk.2 c7).2.2.2 c19).2.2.2.2.2 c50).1 ?_
          refine gw_iload_n C 60 dX2_changeClerks_59 2 rfl rfl ?_
          refine gw_cVv C 63 dX2_changeClerks_60 rfl yv_X1_comeTo lk_X2_82 [.int (M ((k0 + 14) + 1 + (x1).toNatClampNeg) 2)] [] rfl (ct_X1_comeTo (E := E) (l := ps_l X) ((k0 + 14) + 1 + ((fv_X2_firstFree k0 (fv_X1_leaveDuty ((k0 + 14) + 1 + (x1).toNatClampNeg) (2 : Int32) M))).toNatClampNeg) (M ((k0 + 14) + 1 + (x1).toNatClampNeg) 2) (kd_K (kd_d14 hk0) (((hk.2 c7).2.2.2 c19).2.2.2.2.2 c50).1) (fv_X1_leaveDuty ((k0 + 14) + 1 + (x1).toNatClampNeg) (2 : Int32) M) (((hk.2 c7).2.2.2 c19).2.2.2.2.2 c50).2.1) (rc_K (kd_K (kd_d14 hk0) (((hk.2 c7).2.2.2 c19).2.2.2.2.2 c50).1)) rfl (Nat.le_of_ble_eq_true rfl) (Nat.le_of_ble_eq_true rfl) (Nat.le_of_ble_eq_true rfl) ?_
          refine gw_sub C [(0, .ref (ps_ad E k0)), (1, .int x1)] [0, 1] rfl ?_
          exact bw_X2_changeClerks_63 C RT _ _ (fun b0 a1 hk0 M h => ih b0 a1 hk0 M h) k0 x1 hk0 (fv_X1_comeTo ((k0 + 14) + 1 + ((fv_X2_firstFree k0 (fv_X1_leaveDuty ((k0 + 14) + 1 + (x1).toNatClampNeg) (2 : Int32) M))).toNatClampNeg) (M ((k0 + 14) + 1 + (x1).toNatClampNeg) 2) (fv_X1_leaveDuty ((k0 + 14) + 1 + (x1).toNatClampNeg) (2 : Int32) M)) (((hk.2 c7).2.2.2 c19).2.2.2.2.2 c50).2.2
def fv_X2_changeClerks (k0 : Nat) (M : ps_M) : ps_M := fv_X2_changeClerks_2 ps_FU k0 (0 : Int32) M
def ok_X2_changeClerks (k0 : Nat) (M : ps_M) : Prop := ok_X2_changeClerks_2 ps_FU k0 (0 : Int32) M
set_option maxRecDepth 100000 in
set_option maxHeartbeats 4000000 in
theorem bw_X2_changeClerks {E : ps_E} {X : ps_X ps_M} (C : ps_C (ps_Yc E) X cX2_changeClerks RX2 none 3 62 4) (RT : ps_RV (ps_Yc E) X cX2_changeClerks) (k0 : Nat) (hk0 : ps_kd k0 = 2) (M : ps_M) (hk : ok_X2_changeClerks k0 M) : ps_G (ps_Yc E) X (fv_X2_changeClerks k0 M) 0 [(0, .ref (ps_ad E k0))] [] M := by
  unfold fv_X2_changeClerks
  unfold ok_X2_changeClerks at hk
  refine gw_iconst C 1 dX2_changeClerks_0 (v := 0) (by decide) rfl ?_
  refine gw_istore_n C 2 dX2_changeClerks_1 rfl [(0, .ref (ps_ad E k0)), (1, .int (0 : Int32))] [1, 0] (by decide) rfl ?_
  exact bw_X2_changeClerks_2 C RT  ps_FU k0 (0 : Int32) hk0 M hk
theorem ct_X2_changeClerks {E : ps_E} {l : Launch} (k0 : Nat) (hk0 : ps_kd k0 = 2) (M : ps_M) (hk : ok_X2_changeClerks k0 M) : ps_CV (ps_Yc E) l yX2_changeClerks cX2_changeClerks 4 3 62 [.ref (ps_ad E k0)] M (fv_X2_changeClerks k0 M) := ps_metV RX2 (by decide) rfl (Nat.le_of_ble_eq_true rfl) rfl (fun X _ C RT => bw_X2_changeClerks C RT k0 hk0 M hk)
def fv_X2_servedAnHourAt_4 : Nat → Nat → Int32 → Int32 → Int32 → ps_M → Int32
  | 0, _, _, _, _, M => 0
  | n + 1, k0, x1, x2, x3, M => if (M k0 2) ≤ x3 then x2 else (if (M ((k0 + 14) + 1 + (x3).toNatClampNeg) 2) = x1 then (fv_X2_servedAnHourAt_4 n k0 x1 (x2 + (M ((k0 + 14) + 1 + (x3).toNatClampNeg) 0)) (x3 + (1 : Int32)) M) else (fv_X2_servedAnHourAt_4 n k0 x1 x2 (x3 + (1 : Int32)) M))
theorem fv_X2_servedAnHourAt_4_s (n : Nat) (k0 : Nat) (x1 : Int32) (x2 : Int32) (x3 : Int32) (M : ps_M) : fv_X2_servedAnHourAt_4 (n + 1) k0 x1 x2 x3 M = (if (M k0 2) ≤ x3 then x2 else (if (M ((k0 + 14) + 1 + (x3).toNatClampNeg) 2) = x1 then (fv_X2_servedAnHourAt_4 n k0 x1 (x2 + (M ((k0 + 14) + 1 + (x3).toNatClampNeg) 0)) (x3 + (1 : Int32)) M) else (fv_X2_servedAnHourAt_4 n k0 x1 x2 (x3 + (1 : Int32)) M))) := rfl
def ok_X2_servedAnHourAt_4 : Nat → Nat → Int32 → Int32 → Int32 → ps_M → Prop
  | 0, _, _, _, _, _ => False
  | n + 1, k0, x1, x2, x3, M => ((M k0 2) ≤ x3 → True) ∧ (¬ ((M k0 2) ≤ x3) → ((vp_in x3 12) ∧ (((M ((k0 + 14) + 1 + (x3).toNatClampNeg) 2) = x1 → ((vp_in x3 12) ∧ (ok_X2_servedAnHourAt_4 n k0 x1 (x2 + (M ((k0 + 14) + 1 + (x3).toNatClampNeg) 0)) (x3 + (1 : Int32)) M))) ∧ (¬ ((M ((k0 + 14) + 1 + (x3).toNatClampNeg) 2) = x1) → (ok_X2_servedAnHourAt_4 n k0 x1 x2 (x3 + (1 : Int32)) M)))))
theorem ok_X2_servedAnHourAt_4_s (n : Nat) (k0 : Nat) (x1 : Int32) (x2 : Int32) (x3 : Int32) (M : ps_M) : ok_X2_servedAnHourAt_4 (n + 1) k0 x1 x2 x3 M = (((M k0 2) ≤ x3 → True) ∧ (¬ ((M k0 2) ≤ x3) → ((vp_in x3 12) ∧ (((M ((k0 + 14) + 1 + (x3).toNatClampNeg) 2) = x1 → ((vp_in x3 12) ∧ (ok_X2_servedAnHourAt_4 n k0 x1 (x2 + (M ((k0 + 14) + 1 + (x3).toNatClampNeg) 0)) (x3 + (1 : Int32)) M))) ∧ (¬ ((M ((k0 + 14) + 1 + (x3).toNatClampNeg) 2) = x1) → (ok_X2_servedAnHourAt_4 n k0 x1 x2 (x3 + (1 : Int32)) M)))))) := rfl
set_option maxRecDepth 100000 in
set_option maxHeartbeats 4000000 in
theorem bw_X2_servedAnHourAt_4 {E : ps_E} {X : ps_X (Int32 × ps_M)} (C : ps_C (ps_Yc E) X cX2_servedAnHourAt RX2 (some .int) 0 0 4) (RT : ps_RI (ps_Yc E) X cX2_servedAnHourAt .int) (M : ps_M) : ∀ (n : Nat) (k0 : Nat) (x1 : Int32) (x2 : Int32) (x3 : Int32) (hk0 : ps_kd k0 = 2), ok_X2_servedAnHourAt_4 n k0 x1 x2 x3 M → ps_G (ps_Yc E) X (fv_X2_servedAnHourAt_4 n k0 x1 x2 x3 M, M) 4 [(0, .ref (ps_ad E k0)), (1, .int x1), (2, .int x2), (3, .int x3)] [] M := by
  intro n
  induction n with
  | zero => intro k0 x1 x2 x3 hk0 h; exact h.elim
  | succ n ih =>
    intro k0 x1 x2 x3 hk0 hk
    rw [fv_X2_servedAnHourAt_4_s]
    rw [ok_X2_servedAnHourAt_4_s] at hk
    refine gw_iload_n C 5 dX2_servedAnHourAt_4 3 rfl rfl ?_
    refine gw_aload_n C 6 dX2_servedAnHourAt_5 0 rfl rfl ?_
    refine gf_X2_32 C 9 dX2_servedAnHourAt_6 rfl hk0 ?_
    refine gw_ic_geP C 43 12 dX2_servedAnHourAt_9 (by decide) rfl (fun c9 => ?_) (fun c9 => ?_)
    · refine gw_iload_n C 44 dX2_servedAnHourAt_43 2 rfl rfl ?_
      exact RT _ _ _ _ dX2_servedAnHourAt_44 rfl
    · refine gw_aload_n C 13 dX2_servedAnHourAt_12 0 rfl rfl ?_
      refine gf_X2_20 C 16 dX2_servedAnHourAt_13 rfl hk0 ?_
      refine gw_iload_n C 17 dX2_servedAnHourAt_16 3 rfl rfl ?_
      refine gw_alK C 18 dX2_servedAnHourAt_17 rfl (kd_d14 hk0) (hk.2 c9).1 ?_
      refine gf_X2_72 C 21 dX2_servedAnHourAt_18 rfl (kd_K (kd_d14 hk0) (hk.2 c9).1) ?_
      refine gw_iload_n C 22 dX2_servedAnHourAt_21 1 rfl rfl ?_
      refine gw_ic_neP C 37 25 dX2_servedAnHourAt_22 (by decide) rfl (fun c22 => ?_) (fun c22 => ?_)
      · refine gw_iload_n C 26 dX2_servedAnHourAt_25 2 rfl rfl ?_
        refine gw_aload_n C 27 dX2_servedAnHourAt_26 0 rfl rfl ?_
        refine gf_X2_20 C 30 dX2_servedAnHourAt_27 rfl hk0 ?_
        refine gw_iload_n C 31 dX2_servedAnHourAt_30 3 rfl rfl ?_
        refine gw_alK C 32 dX2_servedAnHourAt_31 rfl (kd_d14 hk0) ((hk.2 c9).2.1 c22).1 ?_
        refine gf_X2_42 C 35 dX2_servedAnHourAt_32 rfl (kd_K (kd_d14 hk0) ((hk.2 c9).2.1 c22).1) ?_
        refine gw_iadd C 36 dX2_servedAnHourAt_35 rfl ?_
        refine gw_istore_n C 37 dX2_servedAnHourAt_36 rfl [(0, .ref (ps_ad E k0)), (1, .int x1), (2, .int (x2 + (M ((k0 + 14) + 1 + (x3).toNatClampNeg) 0))), (3, .int x3)] [1, 2, 0, 3] (by decide) rfl ?_
        refine gw_iinc C 40 dX2_servedAnHourAt_37 rfl (y := 1) (by decide) rfl 3 rfl [(0, .ref (ps_ad E k0)), (1, .int x1), (2, .int (x2 + (M ((k0 + 14) + 1 + (x3).toNatClampNeg) 0))), (3, .int (x3 + (1 : Int32)))] [1, 2, 3, 0] (by decide) rfl ?_
        refine gw_goto C 4 dX2_servedAnHourAt_40 (by decide) ?_
        exact ih k0 x1 (x2 + (M ((k0 + 14) + 1 + (x3).toNatClampNeg) 0)) (x3 + (1 : Int32)) hk0 ((hk.2 c9).2.1 c22).2
      · refine gw_iinc C 40 dX2_servedAnHourAt_37 rfl (y := 1) (by decide) rfl 3 rfl [(0, .ref (ps_ad E k0)), (1, .int x1), (2, .int x2), (3, .int (x3 + (1 : Int32)))] [1, 2, 3, 0] (by decide) rfl ?_
        refine gw_goto C 4 dX2_servedAnHourAt_40 (by decide) ?_
        exact ih k0 x1 x2 (x3 + (1 : Int32)) hk0 ((hk.2 c9).2.2 c22)
def fv_X2_servedAnHourAt (k0 : Nat) (x1 : Int32) (M : ps_M) : Int32 := fv_X2_servedAnHourAt_4 ps_FU k0 x1 (0 : Int32) (0 : Int32) M
def ok_X2_servedAnHourAt (k0 : Nat) (x1 : Int32) (M : ps_M) : Prop := ok_X2_servedAnHourAt_4 ps_FU k0 x1 (0 : Int32) (0 : Int32) M
set_option maxRecDepth 100000 in
set_option maxHeartbeats 4000000 in
theorem bw_X2_servedAnHourAt {E : ps_E} {X : ps_X (Int32 × ps_M)} (C : ps_C (ps_Yc E) X cX2_servedAnHourAt RX2 (some .int) 0 0 4) (RT : ps_RI (ps_Yc E) X cX2_servedAnHourAt .int) (M : ps_M) (k0 : Nat) (x1 : Int32) (hk0 : ps_kd k0 = 2) (hk : ok_X2_servedAnHourAt k0 x1 M) : ps_G (ps_Yc E) X (fv_X2_servedAnHourAt k0 x1 M, M) 0 [(0, .ref (ps_ad E k0)), (1, .int x1)] [] M := by
  unfold fv_X2_servedAnHourAt
  unfold ok_X2_servedAnHourAt at hk
  refine gw_iconst C 1 dX2_servedAnHourAt_0 (v := 0) (by decide) rfl ?_
  refine gw_istore_n C 2 dX2_servedAnHourAt_1 rfl [(0, .ref (ps_ad E k0)), (1, .int x1), (2, .int (0 : Int32))] [1, 2, 0] (by decide) rfl ?_
  refine gw_iconst C 3 dX2_servedAnHourAt_2 (v := 0) (by decide) rfl ?_
  refine gw_istore_n C 4 dX2_servedAnHourAt_3 rfl [(0, .ref (ps_ad E k0)), (1, .int x1), (2, .int (0 : Int32)), (3, .int (0 : Int32))] [1, 2, 3, 0] (by decide) rfl ?_
  exact bw_X2_servedAnHourAt_4 C RT M  ps_FU k0 x1 (0 : Int32) (0 : Int32) hk0 hk
theorem ct_X2_servedAnHourAt {E : ps_E} {l : Launch} (k0 : Nat) (x1 : Int32) (hk0 : ps_kd k0 = 2) (M : ps_M) (hk : ok_X2_servedAnHourAt k0 x1 M) : ps_CI (ps_Yc E) l yX2_servedAnHourAt cX2_servedAnHourAt 4 (some .int) 0 0 [.ref (ps_ad E k0), .int x1] M (fv_X2_servedAnHourAt k0 x1 M, M) := ps_metI RX2 (by decide) rfl (Nat.le_of_ble_eq_true rfl) rfl (fun X _ C RT => bw_X2_servedAnHourAt C RT M k0 x1 hk0 hk)
def fv_X2_serveQueues_4 : Nat → Nat → Int32 → Int32 → ps_M → Int32 × ps_M
  | 0, _, _, _, M => (0, M)
  | n + 1, k0, x1, x2, M => if (M k0 1) ≤ x2 then ((x1, M)) else (fv_X2_serveQueues_4 n k0 (x1 + (fv_X4_serveQueue ((k0 + 1) + 1 + 2 * (x2).toNatClampNeg) (fv_X2_servedAnHourAt k0 x2 M) M).1) (x2 + (1 : Int32)) ((fv_X4_serveQueue ((k0 + 1) + 1 + 2 * (x2).toNatClampNeg) (fv_X2_servedAnHourAt k0 x2 M) M).2))
theorem fv_X2_serveQueues_4_s (n : Nat) (k0 : Nat) (x1 : Int32) (x2 : Int32) (M : ps_M) : fv_X2_serveQueues_4 (n + 1) k0 x1 x2 M = (if (M k0 1) ≤ x2 then ((x1, M)) else (fv_X2_serveQueues_4 n k0 (x1 + (fv_X4_serveQueue ((k0 + 1) + 1 + 2 * (x2).toNatClampNeg) (fv_X2_servedAnHourAt k0 x2 M) M).1) (x2 + (1 : Int32)) ((fv_X4_serveQueue ((k0 + 1) + 1 + 2 * (x2).toNatClampNeg) (fv_X2_servedAnHourAt k0 x2 M) M).2))) := rfl
def ok_X2_serveQueues_4 : Nat → Nat → Int32 → Int32 → ps_M → Prop
  | 0, _, _, _, _ => False
  | n + 1, k0, x1, x2, M => ((M k0 1) ≤ x2 → True) ∧ (¬ ((M k0 1) ≤ x2) → ((vp_in x2 6) ∧ ((ok_X2_servedAnHourAt k0 x2 M) ∧ ((ok_X4_serveQueue ((k0 + 1) + 1 + 2 * (x2).toNatClampNeg) (fv_X2_servedAnHourAt k0 x2 M) M) ∧ (ok_X2_serveQueues_4 n k0 (x1 + (fv_X4_serveQueue ((k0 + 1) + 1 + 2 * (x2).toNatClampNeg) (fv_X2_servedAnHourAt k0 x2 M) M).1) (x2 + (1 : Int32)) ((fv_X4_serveQueue ((k0 + 1) + 1 + 2 * (x2).toNatClampNeg) (fv_X2_servedAnHourAt k0 x2 M) M).2))))))
theorem ok_X2_serveQueues_4_s (n : Nat) (k0 : Nat) (x1 : Int32) (x2 : Int32) (M : ps_M) : ok_X2_serveQueues_4 (n + 1) k0 x1 x2 M = (((M k0 1) ≤ x2 → True) ∧ (¬ ((M k0 1) ≤ x2) → ((vp_in x2 6) ∧ ((ok_X2_servedAnHourAt k0 x2 M) ∧ ((ok_X4_serveQueue ((k0 + 1) + 1 + 2 * (x2).toNatClampNeg) (fv_X2_servedAnHourAt k0 x2 M) M) ∧ (ok_X2_serveQueues_4 n k0 (x1 + (fv_X4_serveQueue ((k0 + 1) + 1 + 2 * (x2).toNatClampNeg) (fv_X2_servedAnHourAt k0 x2 M) M).1) (x2 + (1 : Int32)) ((fv_X4_serveQueue ((k0 + 1) + 1 + 2 * (x2).toNatClampNeg) (fv_X2_servedAnHourAt k0 x2 M) M).2))))))) := rfl
set_option maxRecDepth 100000 in
set_option maxHeartbeats 4000000 in
theorem bw_X2_serveQueues_4 {E : ps_E} {X : ps_X (Int32 × ps_M)} (C : ps_C (ps_Yc E) X cX2_serveQueues RX2 (some .int) 2 36 3) (RT : ps_RI (ps_Yc E) X cX2_serveQueues .int) : ∀ (n : Nat) (k0 : Nat) (x1 : Int32) (x2 : Int32) (hk0 : ps_kd k0 = 2) (M : ps_M), ok_X2_serveQueues_4 n k0 x1 x2 M → ps_G (ps_Yc E) X (fv_X2_serveQueues_4 n k0 x1 x2 M) 4 [(0, .ref (ps_ad E k0)), (1, .int x1), (2, .int x2)] [] M := by
  intro n
  induction n with
  | zero => intro k0 x1 x2 hk0 M h; exact h.elim
  | succ n ih =>
    intro k0 x1 x2 hk0 M hk
    rw [fv_X2_serveQueues_4_s]
    rw [ok_X2_serveQueues_4_s] at hk
    refine gw_iload_n C 5 dX2_serveQueues_4 2 rfl rfl ?_
    refine gw_aload_n C 6 dX2_serveQueues_5 0 rfl rfl ?_
    refine gf_X2_29 C 9 dX2_serveQueues_6 rfl hk0 ?_
    refine gw_ic_ge C 35 12 dX2_serveQueues_9 (by decide) rfl (fun c9 => ?_) (fun c9 => ?_)
    · refine gw_iload_n C 36 dX2_serveQueues_35 1 rfl rfl ?_
      exact RT _ _ _ _ dX2_serveQueues_36 rfl
    · refine gw_iload_n C 13 dX2_serveQueues_12 1 rfl rfl ?_
      refine gw_aload_n C 14 dX2_serveQueues_13 0 rfl rfl ?_
      refine gf_X2_11 C 17 dX2_serveQueues_14 rfl hk0 ?_
      refine gw_iload_n C 18 dX2_serveQueues_17 2 rfl rfl ?_
      refine gw_alS C 19 dX2_serveQueues_18 rfl (kd_d1 hk0) (hk.2 c9).1 ?_
      refine gw_aload_n C 20 dX2_serveQueues_19 0 rfl rfl ?_
      refine gw_iload_n C 21 dX2_serveQueues_20 2 rfl rfl ?_
      refine gw_cVp C 24 dX2_serveQueues_21 rfl yv_X2_servedAnHourAt lk_X2_85 [.int x2] [.ref (ps_ad E ((k0 + 1) + 1 + 2 * (x2).toNatClampNeg)), .int x1] rfl (ct_X2_servedAnHourAt (E := E) (l := ps_l X) k0 x2 hk0 M (hk.2 c9).2.1) (rc_D hk0) rfl (Nat.le_of_ble_eq_true rfl) (Nat.le_of_ble_eq_true rfl) (Nat.le_of_ble_eq_true rfl) ?_
      refine gw_cVi C 27 dX2_serveQueues_24 rfl yv_X4_serveQueue lk_X2_89 [.int (fv_X2_servedAnHourAt k0 x2 M)] [.int x1] rfl (ct_X4_serveQueue (E := E) (l := ps_l X) ((k0 + 1) + 1 + 2 * (x2).toNatClampNeg) (fv_X2_servedAnHourAt k0 x2 M) (kd_S (kd_d1 hk0) (hk.2 c9).1) M (hk.2 c9).2.2.1) (rc_S (kd_S (kd_d1 hk0) (hk.2 c9).1)) rfl (Nat.le_of_ble_eq_true rfl) (Nat.le_of_ble_eq_true rfl) (Nat.le_of_ble_eq_true rfl) ?_
      refine gw_iadd C 28 dX2_serveQueues_27 rfl ?_
      refine gw_istore_n C 29 dX2_serveQueues_28 rfl [(0, .ref (ps_ad E k0)), (1, .int (x1 + (fv_X4_serveQueue ((k0 + 1) + 1 + 2 * (x2).toNatClampNeg) (fv_X2_servedAnHourAt k0 x2 M) M).1)), (2, .int x2)] [1, 0, 2] (by decide) rfl ?_
      refine gw_iinc C 32 dX2_serveQueues_29 rfl (y := 1) (by decide) rfl 2 rfl [(0, .ref (ps_ad E k0)), (1, .int (x1 + (fv_X4_serveQueue ((k0 + 1) + 1 + 2 * (x2).toNatClampNeg) (fv_X2_servedAnHourAt k0 x2 M) M).1)), (2, .int (x2 + (1 : Int32)))] [1, 2, 0] (by decide) rfl ?_
      refine gw_goto C 4 dX2_serveQueues_32 (by decide) ?_
      exact ih k0 (x1 + (fv_X4_serveQueue ((k0 + 1) + 1 + 2 * (x2).toNatClampNeg) (fv_X2_servedAnHourAt k0 x2 M) M).1) (x2 + (1 : Int32)) hk0 ((fv_X4_serveQueue ((k0 + 1) + 1 + 2 * (x2).toNatClampNeg) (fv_X2_servedAnHourAt k0 x2 M) M).2) (hk.2 c9).2.2.2
def fv_X2_serveQueues (k0 : Nat) (M : ps_M) : Int32 × ps_M := fv_X2_serveQueues_4 ps_FU k0 (0 : Int32) (0 : Int32) M
def ok_X2_serveQueues (k0 : Nat) (M : ps_M) : Prop := ok_X2_serveQueues_4 ps_FU k0 (0 : Int32) (0 : Int32) M
set_option maxRecDepth 100000 in
set_option maxHeartbeats 4000000 in
theorem bw_X2_serveQueues {E : ps_E} {X : ps_X (Int32 × ps_M)} (C : ps_C (ps_Yc E) X cX2_serveQueues RX2 (some .int) 2 36 3) (RT : ps_RI (ps_Yc E) X cX2_serveQueues .int) (k0 : Nat) (hk0 : ps_kd k0 = 2) (M : ps_M) (hk : ok_X2_serveQueues k0 M) : ps_G (ps_Yc E) X (fv_X2_serveQueues k0 M) 0 [(0, .ref (ps_ad E k0))] [] M := by
  unfold fv_X2_serveQueues
  unfold ok_X2_serveQueues at hk
  refine gw_iconst C 1 dX2_serveQueues_0 (v := 0) (by decide) rfl ?_
  refine gw_istore_n C 2 dX2_serveQueues_1 rfl [(0, .ref (ps_ad E k0)), (1, .int (0 : Int32))] [1, 0] (by decide) rfl ?_
  refine gw_iconst C 3 dX2_serveQueues_2 (v := 0) (by decide) rfl ?_
  refine gw_istore_n C 4 dX2_serveQueues_3 rfl [(0, .ref (ps_ad E k0)), (1, .int (0 : Int32)), (2, .int (0 : Int32))] [1, 2, 0] (by decide) rfl ?_
  exact bw_X2_serveQueues_4 C RT  ps_FU k0 (0 : Int32) (0 : Int32) hk0 M hk
theorem ct_X2_serveQueues {E : ps_E} {l : Launch} (k0 : Nat) (hk0 : ps_kd k0 = 2) (M : ps_M) (hk : ok_X2_serveQueues k0 M) : ps_CI (ps_Yc E) l yX2_serveQueues cX2_serveQueues 3 (some .int) 2 36 [.ref (ps_ad E k0)] M (fv_X2_serveQueues k0 M) := ps_metI RX2 (by decide) rfl (Nat.le_of_ble_eq_true rfl) rfl (fun X _ C RT => bw_X2_serveQueues C RT k0 hk0 M hk)
def fv_X2_endHourOfClerks_2 : Nat → Nat → Int32 → ps_M → ps_M
  | 0, _, _, M => M
  | n + 1, k0, x1, M => if (M k0 2) ≤ x1 then M else (fv_X2_endHourOfClerks_2 n k0 (x1 + (1 : Int32)) (fv_X1_endHour ((k0 + 14) + 1 + (x1).toNatClampNeg) M))
theorem fv_X2_endHourOfClerks_2_s (n : Nat) (k0 : Nat) (x1 : Int32) (M : ps_M) : fv_X2_endHourOfClerks_2 (n + 1) k0 x1 M = (if (M k0 2) ≤ x1 then M else (fv_X2_endHourOfClerks_2 n k0 (x1 + (1 : Int32)) (fv_X1_endHour ((k0 + 14) + 1 + (x1).toNatClampNeg) M))) := rfl
def ok_X2_endHourOfClerks_2 : Nat → Nat → Int32 → ps_M → Prop
  | 0, _, _, _ => False
  | n + 1, k0, x1, M => ((M k0 2) ≤ x1 → True) ∧ (¬ ((M k0 2) ≤ x1) → ((vp_in x1 12) ∧ ((ok_X1_endHour ((k0 + 14) + 1 + (x1).toNatClampNeg) M) ∧ (ok_X2_endHourOfClerks_2 n k0 (x1 + (1 : Int32)) (fv_X1_endHour ((k0 + 14) + 1 + (x1).toNatClampNeg) M)))))
theorem ok_X2_endHourOfClerks_2_s (n : Nat) (k0 : Nat) (x1 : Int32) (M : ps_M) : ok_X2_endHourOfClerks_2 (n + 1) k0 x1 M = (((M k0 2) ≤ x1 → True) ∧ (¬ ((M k0 2) ≤ x1) → ((vp_in x1 12) ∧ ((ok_X1_endHour ((k0 + 14) + 1 + (x1).toNatClampNeg) M) ∧ (ok_X2_endHourOfClerks_2 n k0 (x1 + (1 : Int32)) (fv_X1_endHour ((k0 + 14) + 1 + (x1).toNatClampNeg) M)))))) := rfl
set_option maxRecDepth 100000 in
set_option maxHeartbeats 4000000 in
theorem bw_X2_endHourOfClerks_2 {E : ps_E} {X : ps_X ps_M} (C : ps_C (ps_Yc E) X cX2_endHourOfClerks RX2 none 2 40 2) (RT : ps_RV (ps_Yc E) X cX2_endHourOfClerks) : ∀ (n : Nat) (k0 : Nat) (x1 : Int32) (hk0 : ps_kd k0 = 2) (M : ps_M), ok_X2_endHourOfClerks_2 n k0 x1 M → ps_G (ps_Yc E) X (fv_X2_endHourOfClerks_2 n k0 x1 M) 2 [(0, .ref (ps_ad E k0)), (1, .int x1)] [] M := by
  intro n
  induction n with
  | zero => intro k0 x1 hk0 M h; exact h.elim
  | succ n ih =>
    intro k0 x1 hk0 M hk
    rw [fv_X2_endHourOfClerks_2_s]
    rw [ok_X2_endHourOfClerks_2_s] at hk
    refine gw_iload_n C 3 dX2_endHourOfClerks_2 1 rfl rfl ?_
    refine gw_aload_n C 4 dX2_endHourOfClerks_3 0 rfl rfl ?_
    refine gf_X2_32 C 7 dX2_endHourOfClerks_4 rfl hk0 ?_
    refine gw_ic_ge C 25 10 dX2_endHourOfClerks_7 (by decide) rfl (fun c7 => ?_) (fun c7 => ?_)
    · exact RT _ _ _ dX2_endHourOfClerks_25
    · refine gw_aload_n C 11 dX2_endHourOfClerks_10 0 rfl rfl ?_
      refine gf_X2_20 C 14 dX2_endHourOfClerks_11 rfl hk0 ?_
      refine gw_iload_n C 15 dX2_endHourOfClerks_14 1 rfl rfl ?_
      refine gw_alK C 16 dX2_endHourOfClerks_15 rfl (kd_d14 hk0) (hk.2 c7).1 ?_
      refine gw_cVv C 19 dX2_endHourOfClerks_16 rfl yv_X1_endHour lk_X2_92 [] [] rfl (ct_X1_endHour (E := E) (l := ps_l X) ((k0 + 14) + 1 + (x1).toNatClampNeg) (kd_K (kd_d14 hk0) (hk.2 c7).1) M (hk.2 c7).2.1) (rc_K (kd_K (kd_d14 hk0) (hk.2 c7).1)) rfl (Nat.le_of_ble_eq_true rfl) (Nat.le_of_ble_eq_true rfl) (Nat.le_of_ble_eq_true rfl) ?_
      refine gw_iinc C 22 dX2_endHourOfClerks_19 rfl (y := 1) (by decide) rfl 1 rfl [(0, .ref (ps_ad E k0)), (1, .int (x1 + (1 : Int32)))] [1, 0] (by decide) rfl ?_
      refine gw_goto C 2 dX2_endHourOfClerks_22 (by decide) ?_
      exact ih k0 (x1 + (1 : Int32)) hk0 (fv_X1_endHour ((k0 + 14) + 1 + (x1).toNatClampNeg) M) (hk.2 c7).2.2
def fv_X2_endHourOfClerks (k0 : Nat) (M : ps_M) : ps_M := fv_X2_endHourOfClerks_2 ps_FU k0 (0 : Int32) M
def ok_X2_endHourOfClerks (k0 : Nat) (M : ps_M) : Prop := ok_X2_endHourOfClerks_2 ps_FU k0 (0 : Int32) M
set_option maxRecDepth 100000 in
set_option maxHeartbeats 4000000 in
theorem bw_X2_endHourOfClerks {E : ps_E} {X : ps_X ps_M} (C : ps_C (ps_Yc E) X cX2_endHourOfClerks RX2 none 2 40 2) (RT : ps_RV (ps_Yc E) X cX2_endHourOfClerks) (k0 : Nat) (hk0 : ps_kd k0 = 2) (M : ps_M) (hk : ok_X2_endHourOfClerks k0 M) : ps_G (ps_Yc E) X (fv_X2_endHourOfClerks k0 M) 0 [(0, .ref (ps_ad E k0))] [] M := by
  unfold fv_X2_endHourOfClerks
  unfold ok_X2_endHourOfClerks at hk
  refine gw_iconst C 1 dX2_endHourOfClerks_0 (v := 0) (by decide) rfl ?_
  refine gw_istore_n C 2 dX2_endHourOfClerks_1 rfl [(0, .ref (ps_ad E k0)), (1, .int (0 : Int32))] [1, 0] (by decide) rfl ?_
  exact bw_X2_endHourOfClerks_2 C RT  ps_FU k0 (0 : Int32) hk0 M hk
theorem ct_X2_endHourOfClerks {E : ps_E} {l : Launch} (k0 : Nat) (hk0 : ps_kd k0 = 2) (M : ps_M) (hk : ok_X2_endHourOfClerks k0 M) : ps_CV (ps_Yc E) l yX2_endHourOfClerks cX2_endHourOfClerks 2 2 40 [.ref (ps_ad E k0)] M (fv_X2_endHourOfClerks k0 M) := ps_metV RX2 (by decide) rfl (Nat.le_of_ble_eq_true rfl) rfl (fun X _ C RT => bw_X2_endHourOfClerks C RT k0 hk0 M hk)
def fv_X2_letHoursPass_38 (rec4 : Nat → Int32 → Int32 → Int32 → ps_M → Int32 × ps_M) (k0 : Nat) (x1 : Int32) (x2 : Int32) (x3 : Int32) (M : ps_M) : Int32 × ps_M := rec4 k0 x1 x2 (x3 + (1 : Int32)) M
def ok_X2_letHoursPass_38 (rec4 : Nat → Int32 → Int32 → Int32 → ps_M → Int32 × ps_M) (okr4 : Nat → Int32 → Int32 → Int32 → ps_M → Prop) (k0 : Nat) (x1 : Int32) (x2 : Int32) (x3 : Int32) (M : ps_M) : Prop := okr4 k0 x1 x2 (x3 + (1 : Int32)) M
set_option maxRecDepth 100000 in
set_option maxHeartbeats 4000000 in
theorem bw_X2_letHoursPass_38 {E : ps_E} {X : ps_X (Int32 × ps_M)} (C : ps_C (ps_Yc E) X cX2_letHoursPass RX2 (some .int) 4 85 4) (RT : ps_RI (ps_Yc E) X cX2_letHoursPass .int) (rec4 : Nat → Int32 → Int32 → Int32 → ps_M → Int32 × ps_M) (okr4 : Nat → Int32 → Int32 → Int32 → ps_M → Prop) (hr4 : ∀ (k0 : Nat) (x1 : Int32) (x2 : Int32) (x3 : Int32) (hk0 : ps_kd k0 = 2) (M : ps_M), okr4 k0 x1 x2 x3 M → ps_G (ps_Yc E) X (rec4 k0 x1 x2 x3 M) 4 [(0, .ref (ps_ad E k0)), (1, .int x1), (2, .int x2), (3, .int x3)] [] M) (k0 : Nat) (x1 : Int32) (x2 : Int32) (x3 : Int32) (hk0 : ps_kd k0 = 2) (M : ps_M) (hk : ok_X2_letHoursPass_38 rec4 okr4 k0 x1 x2 x3 M) : ps_G (ps_Yc E) X (fv_X2_letHoursPass_38 rec4 k0 x1 x2 x3 M) 38 [(0, .ref (ps_ad E k0)), (1, .int x1), (2, .int x2), (3, .int x3)] [] M := by
  unfold fv_X2_letHoursPass_38
  unfold ok_X2_letHoursPass_38 at hk
  refine gw_iinc C 41 dX2_letHoursPass_38 rfl (y := 1) (by decide) rfl 3 rfl [(0, .ref (ps_ad E k0)), (1, .int x1), (2, .int x2), (3, .int (x3 + (1 : Int32)))] [1, 2, 3, 0] (by decide) rfl ?_
  refine gw_goto C 4 dX2_letHoursPass_41 (by decide) ?_
  exact hr4 k0 x1 x2 (x3 + (1 : Int32)) hk0 M hk
def fv_X2_letHoursPass_4 : Nat → Nat → Int32 → Int32 → Int32 → ps_M → Int32 × ps_M
  | 0, _, _, _, _, M => (0, M)
  | n + 1, k0, x1, x2, x3, M => if x1 ≤ x3 then ((x2, M)) else (fv_X2_letHoursPass_38 (fun b0 a1 a2 a3 M => fv_X2_letHoursPass_4 n b0 a1 a2 a3 M) k0 x1 (x2 + (fv_X2_serveQueues k0 (fv_X2_changeClerks k0 (fv_X2_letArrive k0 M))).1) x3 (ps_st (fv_X2_endHourOfClerks k0 ((fv_X2_serveQueues k0 (fv_X2_changeClerks k0 (fv_X2_letArrive k0 M))).2)) k0 0 (((fv_X2_endHourOfClerks k0 ((fv_X2_serveQueues k0 (fv_X2_changeClerks k0 (fv_X2_letArrive k0 M))).2)) k0 0) + (1 : Int32))))
theorem fv_X2_letHoursPass_4_s (n : Nat) (k0 : Nat) (x1 : Int32) (x2 : Int32) (x3 : Int32) (M : ps_M) : fv_X2_letHoursPass_4 (n + 1) k0 x1 x2 x3 M = (if x1 ≤ x3 then ((x2, M)) else (fv_X2_letHoursPass_38 (fun b0 a1 a2 a3 M => fv_X2_letHoursPass_4 n b0 a1 a2 a3 M) k0 x1 (x2 + (fv_X2_serveQueues k0 (fv_X2_changeClerks k0 (fv_X2_letArrive k0 M))).1) x3 (ps_st (fv_X2_endHourOfClerks k0 ((fv_X2_serveQueues k0 (fv_X2_changeClerks k0 (fv_X2_letArrive k0 M))).2)) k0 0 (((fv_X2_endHourOfClerks k0 ((fv_X2_serveQueues k0 (fv_X2_changeClerks k0 (fv_X2_letArrive k0 M))).2)) k0 0) + (1 : Int32))))) := rfl
def ok_X2_letHoursPass_4 : Nat → Nat → Int32 → Int32 → Int32 → ps_M → Prop
  | 0, _, _, _, _, _ => False
  | n + 1, k0, x1, x2, x3, M => (x1 ≤ x3 → True) ∧ (¬ (x1 ≤ x3) → ((ok_X2_letArrive k0 M) ∧ ((ok_X2_changeClerks k0 (fv_X2_letArrive k0 M)) ∧ ((ok_X2_serveQueues k0 (fv_X2_changeClerks k0 (fv_X2_letArrive k0 M))) ∧ ((ok_X2_endHourOfClerks k0 ((fv_X2_serveQueues k0 (fv_X2_changeClerks k0 (fv_X2_letArrive k0 M))).2)) ∧ (ok_X2_letHoursPass_38 (fun b0 a1 a2 a3 M => fv_X2_letHoursPass_4 n b0 a1 a2 a3 M) (fun b0 a1 a2 a3 M => ok_X2_letHoursPass_4 n b0 a1 a2 a3 M) k0 x1 (x2 + (fv_X2_serveQueues k0 (fv_X2_changeClerks k0 (fv_X2_letArrive k0 M))).1) x3 (ps_st (fv_X2_endHourOfClerks k0 ((fv_X2_serveQueues k0 (fv_X2_changeClerks k0 (fv_X2_letArrive k0 M))).2)) k0 0 (((fv_X2_endHourOfClerks k0 ((fv_X2_serveQueues k0 (fv_X2_changeClerks k0 (fv_X2_letArrive k0 M))).2)) k0 0) + (1 : Int32)))))))))
theorem ok_X2_letHoursPass_4_s (n : Nat) (k0 : Nat) (x1 : Int32) (x2 : Int32) (x3 : Int32) (M : ps_M) : ok_X2_letHoursPass_4 (n + 1) k0 x1 x2 x3 M = ((x1 ≤ x3 → True) ∧ (¬ (x1 ≤ x3) → ((ok_X2_letArrive k0 M) ∧ ((ok_X2_changeClerks k0 (fv_X2_letArrive k0 M)) ∧ ((ok_X2_serveQueues k0 (fv_X2_changeClerks k0 (fv_X2_letArrive k0 M))) ∧ ((ok_X2_endHourOfClerks k0 ((fv_X2_serveQueues k0 (fv_X2_changeClerks k0 (fv_X2_letArrive k0 M))).2)) ∧ (ok_X2_letHoursPass_38 (fun b0 a1 a2 a3 M => fv_X2_letHoursPass_4 n b0 a1 a2 a3 M) (fun b0 a1 a2 a3 M => ok_X2_letHoursPass_4 n b0 a1 a2 a3 M) k0 x1 (x2 + (fv_X2_serveQueues k0 (fv_X2_changeClerks k0 (fv_X2_letArrive k0 M))).1) x3 (ps_st (fv_X2_endHourOfClerks k0 ((fv_X2_serveQueues k0 (fv_X2_changeClerks k0 (fv_X2_letArrive k0 M))).2)) k0 0 (((fv_X2_endHourOfClerks k0 ((fv_X2_serveQueues k0 (fv_X2_changeClerks k0 (fv_X2_letArrive k0 M))).2)) k0 0) + (1 : Int32)))))))))) := rfl
set_option maxRecDepth 100000 in
set_option maxHeartbeats 4000000 in
theorem bw_X2_letHoursPass_4 {E : ps_E} {X : ps_X (Int32 × ps_M)} (C : ps_C (ps_Yc E) X cX2_letHoursPass RX2 (some .int) 4 85 4) (RT : ps_RI (ps_Yc E) X cX2_letHoursPass .int) : ∀ (n : Nat) (k0 : Nat) (x1 : Int32) (x2 : Int32) (x3 : Int32) (hk0 : ps_kd k0 = 2) (M : ps_M), ok_X2_letHoursPass_4 n k0 x1 x2 x3 M → ps_G (ps_Yc E) X (fv_X2_letHoursPass_4 n k0 x1 x2 x3 M) 4 [(0, .ref (ps_ad E k0)), (1, .int x1), (2, .int x2), (3, .int x3)] [] M := by
  intro n
  induction n with
  | zero => intro k0 x1 x2 x3 hk0 M h; exact h.elim
  | succ n ih =>
    intro k0 x1 x2 x3 hk0 M hk
    rw [fv_X2_letHoursPass_4_s]
    rw [ok_X2_letHoursPass_4_s] at hk
    refine gw_iload_n C 5 dX2_letHoursPass_4 3 rfl rfl ?_
    refine gw_iload_n C 6 dX2_letHoursPass_5 1 rfl rfl ?_
    refine gw_ic_ge C 44 9 dX2_letHoursPass_6 (by decide) rfl (fun c6 => ?_) (fun c6 => ?_)
    · refine gw_iload_n C 45 dX2_letHoursPass_44 2 rfl rfl ?_
      exact RT _ _ _ _ dX2_letHoursPass_45 rfl
    · refine gw_aload_n C 10 dX2_letHoursPass_9 0 rfl rfl ?_
      refine gw_cVv C 13 dX2_letHoursPass_10 rfl yv_X2_letArrive lk_X2_48 [] [] rfl (ct_X2_letArrive (E := E) (l := ps_l X) k0 hk0 M (hk.2 c6).1) (rc_D hk0) rfl (Nat.le_of_ble_eq_true rfl) (Nat.le_of_ble_eq_true rfl) (Nat.le_of_ble_eq_true rfl) ?_
      refine gw_aload_n C 14 dX2_letHoursPass_13 0 rfl rfl ?_
      refine gw_cVv C 17 dX2_letHoursPass_14 rfl yv_X2_changeClerks lk_X2_51 [] [] rfl (ct_X2_changeClerks (E := E) (l := ps_l X) k0 hk0 (fv_X2_letArrive k0 M) (hk.2 c6).2.1) (rc_D hk0) rfl (Nat.le_of_ble_eq_true rfl) (Nat.le_of_ble_eq_true rfl) (Nat.le_of_ble_eq_true rfl) ?_
      refine gw_iload_n C 18 dX2_letHoursPass_17 2 rfl rfl ?_
      refine gw_aload_n C 19 dX2_letHoursPass_18 0 rfl rfl ?_
      refine gw_cVi C 22 dX2_letHoursPass_19 rfl yv_X2_serveQueues lk_X2_54 [] [.int x2] rfl (ct_X2_serveQueues (E := E) (l := ps_l X) k0 hk0 (fv_X2_changeClerks k0 (fv_X2_letArrive k0 M)) (hk.2 c6).2.2.1) (rc_D hk0) rfl (Nat.le_of_ble_eq_true rfl) (Nat.le_of_ble_eq_true rfl) (Nat.le_of_ble_eq_true rfl) ?_
      refine gw_iadd C 23 dX2_letHoursPass_22 rfl ?_
      refine gw_istore_n C 24 dX2_letHoursPass_23 rfl [(0, .ref (ps_ad E k0)), (1, .int x1), (2, .int (x2 + (fv_X2_serveQueues k0 (fv_X2_changeClerks k0 (fv_X2_letArrive k0 M))).1)), (3, .int x3)] [1, 2, 0, 3] (by decide) rfl ?_
      refine gw_aload_n C 25 dX2_letHoursPass_24 0 rfl rfl ?_
      refine gw_cVv C 28 dX2_letHoursPass_25 rfl yv_X2_endHourOfClerks lk_X2_58 [] [] rfl (ct_X2_endHourOfClerks (E := E) (l := ps_l X) k0 hk0 ((fv_X2_serveQueues k0 (fv_X2_changeClerks k0 (fv_X2_letArrive k0 M))).2) (hk.2 c6).2.2.2.1) (rc_D hk0) rfl (Nat.le_of_ble_eq_true rfl) (Nat.le_of_ble_eq_true rfl) (Nat.le_of_ble_eq_true rfl) ?_
      refine gw_aload_n C 29 dX2_letHoursPass_28 0 rfl rfl ?_
      refine gw_dup C 30 dX2_letHoursPass_29 rfl rfl ?_
      refine gf_X2_25 C 33 dX2_letHoursPass_30 rfl hk0 ?_
      refine gw_iconst C 34 dX2_letHoursPass_33 (v := 1) (by decide) rfl ?_
      refine gw_iadd C 35 dX2_letHoursPass_34 rfl ?_
      refine pf_X2_25 C 38 dX2_letHoursPass_35 rfl hk0 ?_
      exact bw_X2_letHoursPass_38 C RT _ _ (fun b0 a1 a2 a3 hk0 M h => ih b0 a1 a2 a3 hk0 M h) k0 x1 (x2 + (fv_X2_serveQueues k0 (fv_X2_changeClerks k0 (fv_X2_letArrive k0 M))).1) x3 hk0 (ps_st (fv_X2_endHourOfClerks k0 ((fv_X2_serveQueues k0 (fv_X2_changeClerks k0 (fv_X2_letArrive k0 M))).2)) k0 0 (((fv_X2_endHourOfClerks k0 ((fv_X2_serveQueues k0 (fv_X2_changeClerks k0 (fv_X2_letArrive k0 M))).2)) k0 0) + (1 : Int32))) (hk.2 c6).2.2.2.2
def fv_X2_letHoursPass (k0 : Nat) (x1 : Int32) (M : ps_M) : Int32 × ps_M := fv_X2_letHoursPass_4 ps_FU k0 x1 (0 : Int32) (0 : Int32) M
def ok_X2_letHoursPass (k0 : Nat) (x1 : Int32) (M : ps_M) : Prop := ok_X2_letHoursPass_4 ps_FU k0 x1 (0 : Int32) (0 : Int32) M
set_option maxRecDepth 100000 in
set_option maxHeartbeats 4000000 in
theorem bw_X2_letHoursPass {E : ps_E} {X : ps_X (Int32 × ps_M)} (C : ps_C (ps_Yc E) X cX2_letHoursPass RX2 (some .int) 4 85 4) (RT : ps_RI (ps_Yc E) X cX2_letHoursPass .int) (k0 : Nat) (x1 : Int32) (hk0 : ps_kd k0 = 2) (M : ps_M) (hk : ok_X2_letHoursPass k0 x1 M) : ps_G (ps_Yc E) X (fv_X2_letHoursPass k0 x1 M) 0 [(0, .ref (ps_ad E k0)), (1, .int x1)] [] M := by
  unfold fv_X2_letHoursPass
  unfold ok_X2_letHoursPass at hk
  refine gw_iconst C 1 dX2_letHoursPass_0 (v := 0) (by decide) rfl ?_
  refine gw_istore_n C 2 dX2_letHoursPass_1 rfl [(0, .ref (ps_ad E k0)), (1, .int x1), (2, .int (0 : Int32))] [1, 2, 0] (by decide) rfl ?_
  refine gw_iconst C 3 dX2_letHoursPass_2 (v := 0) (by decide) rfl ?_
  refine gw_istore_n C 4 dX2_letHoursPass_3 rfl [(0, .ref (ps_ad E k0)), (1, .int x1), (2, .int (0 : Int32)), (3, .int (0 : Int32))] [1, 2, 3, 0] (by decide) rfl ?_
  exact bw_X2_letHoursPass_4 C RT  ps_FU k0 x1 (0 : Int32) (0 : Int32) hk0 M hk
theorem ct_X2_letHoursPass {E : ps_E} {l : Launch} (k0 : Nat) (x1 : Int32) (hk0 : ps_kd k0 = 2) (M : ps_M) (hk : ok_X2_letHoursPass k0 x1 M) : ps_CI (ps_Yc E) l yX2_letHoursPass cX2_letHoursPass 4 (some .int) 4 85 [.ref (ps_ad E k0), .int x1] M (fv_X2_letHoursPass k0 x1 M) := ps_metI RX2 (by decide) rfl (Nat.le_of_ble_eq_true rfl) rfl (fun X _ C RT => bw_X2_letHoursPass C RT k0 x1 hk0 M hk)
def fv_X2_hoursForQueueOf (k0 : Nat) (x1 : Int32) (M : ps_M) : Int32 := if (M ((k0 + 1) + 1 + 2 * (x1).toNatClampNeg) 1) = 0 then ((0 : Int32)) else (if 0 < (fv_X2_servedAnHourAt k0 x1 M) then (((((M ((k0 + 1) + 1 + 2 * (x1).toNatClampNeg) 1) + (fv_X2_servedAnHourAt k0 x1 M)) - (1 : Int32)) / (fv_X2_servedAnHourAt k0 x1 M))) else ((-5 : Int32)))
def ok_X2_hoursForQueueOf (k0 : Nat) (x1 : Int32) (M : ps_M) : Prop := (vp_in x1 6) ∧ ((ok_X2_servedAnHourAt k0 x1 M) ∧ (((M ((k0 + 1) + 1 + 2 * (x1).toNatClampNeg) 1) = 0 → True) ∧ (¬ ((M ((k0 + 1) + 1 + 2 * (x1).toNatClampNeg) 1) = 0) → ((0 < (fv_X2_servedAnHourAt k0 x1 M) → ((¬ (fv_X2_servedAnHourAt k0 x1 M) = 0) ∧ True)) ∧ (¬ (0 < (fv_X2_servedAnHourAt k0 x1 M)) → True)))))
set_option maxRecDepth 100000 in
set_option maxHeartbeats 4000000 in
theorem bw_X2_hoursForQueueOf {E : ps_E} {X : ps_X (Int32 × ps_M)} (C : ps_C (ps_Yc E) X cX2_hoursForQueueOf RX2 (some .int) 1 23 4) (RT : ps_RI (ps_Yc E) X cX2_hoursForQueueOf .int) (M : ps_M) (k0 : Nat) (x1 : Int32) (hk0 : ps_kd k0 = 2) (hk : ok_X2_hoursForQueueOf k0 x1 M) : ps_G (ps_Yc E) X (fv_X2_hoursForQueueOf k0 x1 M, M) 0 [(0, .ref (ps_ad E k0)), (1, .int x1)] [] M := by
  unfold fv_X2_hoursForQueueOf
  unfold ok_X2_hoursForQueueOf at hk
  refine gw_aload_n C 1 dX2_hoursForQueueOf_0 0 rfl rfl ?_
  refine gf_X2_11 C 4 dX2_hoursForQueueOf_1 rfl hk0 ?_
  refine gw_iload_n C 5 dX2_hoursForQueueOf_4 1 rfl rfl ?_
  refine gw_alS C 6 dX2_hoursForQueueOf_5 rfl (kd_d1 hk0) hk.1 ?_
  refine gf_X2_61 C 9 dX2_hoursForQueueOf_6 rfl (kd_S (kd_d1 hk0) hk.1) ?_
  refine gw_istore_n C 10 dX2_hoursForQueueOf_9 rfl [(0, .ref (ps_ad E k0)), (1, .int x1), (2, .int (M ((k0 + 1) + 1 + 2 * (x1).toNatClampNeg) 1))] [1, 2, 0] (by decide) rfl ?_
  refine gw_aload_n C 11 dX2_hoursForQueueOf_10 0 rfl rfl ?_
  refine gw_iload_n C 12 dX2_hoursForQueueOf_11 1 rfl rfl ?_
  refine gw_cVp C 15 dX2_hoursForQueueOf_12 rfl yv_X2_servedAnHourAt lk_X2_85 [.int x1] [] rfl (ct_X2_servedAnHourAt (E := E) (l := ps_l X) k0 x1 hk0 M hk.2.1) (rc_D hk0) rfl (Nat.le_of_ble_eq_true rfl) (Nat.le_of_ble_eq_true rfl) (Nat.le_of_ble_eq_true rfl) ?_
  refine gw_istore_n C 16 dX2_hoursForQueueOf_15 rfl [(0, .ref (ps_ad E k0)), (1, .int x1), (2, .int (M ((k0 + 1) + 1 + 2 * (x1).toNatClampNeg) 1)), (3, .int (fv_X2_servedAnHourAt k0 x1 M))] [1, 2, 3, 0] (by decide) rfl ?_
  refine gw_iload_n C 17 dX2_hoursForQueueOf_16 2 rfl rfl ?_
  refine gw_if_neP C 22 20 dX2_hoursForQueueOf_17 (by decide) rfl (fun c17 => ?_) (fun c17 => ?_)
  · refine gw_iconst C 21 dX2_hoursForQueueOf_20 (v := 0) (by decide) rfl ?_
    exact RT _ _ _ _ dX2_hoursForQueueOf_21 rfl
  · refine gw_iload_n C 23 dX2_hoursForQueueOf_22 3 rfl rfl ?_
    refine gw_if_gtP C 29 26 dX2_hoursForQueueOf_23 (by decide) rfl (fun c23 => ?_) (fun c23 => ?_)
    · refine gw_iload_n C 30 dX2_hoursForQueueOf_29 2 rfl rfl ?_
      refine gw_iload_n C 31 dX2_hoursForQueueOf_30 3 rfl rfl ?_
      refine gw_iadd C 32 dX2_hoursForQueueOf_31 rfl ?_
      refine gw_iconst C 33 dX2_hoursForQueueOf_32 (v := 1) (by decide) rfl ?_
      refine gw_isub C 34 dX2_hoursForQueueOf_33 rfl ?_
      refine gw_iload_n C 35 dX2_hoursForQueueOf_34 3 rfl rfl ?_
      refine gw_idiv C 36 dX2_hoursForQueueOf_35 ((hk.2.2.2 c17).1 c23).1 rfl ?_
      exact RT _ _ _ _ dX2_hoursForQueueOf_36 rfl
    · refine gw_bipush C 28 dX2_hoursForQueueOf_26 (v := (-5)) (by decide) rfl ?_
      exact RT _ _ _ _ dX2_hoursForQueueOf_28 rfl
theorem ct_X2_hoursForQueueOf {E : ps_E} {l : Launch} (k0 : Nat) (x1 : Int32) (hk0 : ps_kd k0 = 2) (M : ps_M) (hk : ok_X2_hoursForQueueOf k0 x1 M) : ps_CI (ps_Yc E) l yX2_hoursForQueueOf cX2_hoursForQueueOf 4 (some .int) 1 23 [.ref (ps_ad E k0), .int x1] M (fv_X2_hoursForQueueOf k0 x1 M, M) := ps_metI RX2 (by decide) rfl (Nat.le_of_ble_eq_true rfl) rfl (fun X _ C RT => bw_X2_hoursForQueueOf C RT M k0 x1 hk0 hk)
def fv_X2_placeAmongFree_4 : Nat → Nat → Int32 → Int32 → Int32 → ps_M → Int32
  | 0, _, _, _, _, M => 0
  | n + 1, k0, x1, x2, x3, M => if (M k0 2) ≤ x3 then x2 else (if (fv_X1_isFree ((k0 + 14) + 1 + (x3).toNatClampNeg) M) = 0 then (fv_X2_placeAmongFree_4 n k0 x1 x2 (x3 + (1 : Int32)) M) else (if (fv_X2_comesBefore k0 x3 x1 M) = 0 then (fv_X2_placeAmongFree_4 n k0 x1 x2 (x3 + (1 : Int32)) M) else (fv_X2_placeAmongFree_4 n k0 x1 (x2 + (1 : Int32)) (x3 + (1 : Int32)) M)))
theorem fv_X2_placeAmongFree_4_s (n : Nat) (k0 : Nat) (x1 : Int32) (x2 : Int32) (x3 : Int32) (M : ps_M) : fv_X2_placeAmongFree_4 (n + 1) k0 x1 x2 x3 M = (if (M k0 2) ≤ x3 then x2 else (if (fv_X1_isFree ((k0 + 14) + 1 + (x3).toNatClampNeg) M) = 0 then (fv_X2_placeAmongFree_4 n k0 x1 x2 (x3 + (1 : Int32)) M) else (if (fv_X2_comesBefore k0 x3 x1 M) = 0 then (fv_X2_placeAmongFree_4 n k0 x1 x2 (x3 + (1 : Int32)) M) else (fv_X2_placeAmongFree_4 n k0 x1 (x2 + (1 : Int32)) (x3 + (1 : Int32)) M)))) := rfl
def ok_X2_placeAmongFree_4 : Nat → Nat → Int32 → Int32 → Int32 → ps_M → Prop
  | 0, _, _, _, _, _ => False
  | n + 1, k0, x1, x2, x3, M => ((M k0 2) ≤ x3 → True) ∧ (¬ ((M k0 2) ≤ x3) → ((vp_in x3 12) ∧ ((ok_X1_isFree ((k0 + 14) + 1 + (x3).toNatClampNeg) M) ∧ (((fv_X1_isFree ((k0 + 14) + 1 + (x3).toNatClampNeg) M) = 0 → (ok_X2_placeAmongFree_4 n k0 x1 x2 (x3 + (1 : Int32)) M)) ∧ (¬ ((fv_X1_isFree ((k0 + 14) + 1 + (x3).toNatClampNeg) M) = 0) → ((ok_X2_comesBefore k0 x3 x1 M) ∧ (((fv_X2_comesBefore k0 x3 x1 M) = 0 → (ok_X2_placeAmongFree_4 n k0 x1 x2 (x3 + (1 : Int32)) M)) ∧ (¬ ((fv_X2_comesBefore k0 x3 x1 M) = 0) → (ok_X2_placeAmongFree_4 n k0 x1 (x2 + (1 : Int32)) (x3 + (1 : Int32)) M)))))))))
theorem ok_X2_placeAmongFree_4_s (n : Nat) (k0 : Nat) (x1 : Int32) (x2 : Int32) (x3 : Int32) (M : ps_M) : ok_X2_placeAmongFree_4 (n + 1) k0 x1 x2 x3 M = (((M k0 2) ≤ x3 → True) ∧ (¬ ((M k0 2) ≤ x3) → ((vp_in x3 12) ∧ ((ok_X1_isFree ((k0 + 14) + 1 + (x3).toNatClampNeg) M) ∧ (((fv_X1_isFree ((k0 + 14) + 1 + (x3).toNatClampNeg) M) = 0 → (ok_X2_placeAmongFree_4 n k0 x1 x2 (x3 + (1 : Int32)) M)) ∧ (¬ ((fv_X1_isFree ((k0 + 14) + 1 + (x3).toNatClampNeg) M) = 0) → ((ok_X2_comesBefore k0 x3 x1 M) ∧ (((fv_X2_comesBefore k0 x3 x1 M) = 0 → (ok_X2_placeAmongFree_4 n k0 x1 x2 (x3 + (1 : Int32)) M)) ∧ (¬ ((fv_X2_comesBefore k0 x3 x1 M) = 0) → (ok_X2_placeAmongFree_4 n k0 x1 (x2 + (1 : Int32)) (x3 + (1 : Int32)) M)))))))))) := rfl
set_option maxRecDepth 100000 in
set_option maxHeartbeats 4000000 in
theorem bw_X2_placeAmongFree_4 {E : ps_E} {X : ps_X (Int32 × ps_M)} (C : ps_C (ps_Yc E) X cX2_placeAmongFree RX2 (some .int) 2 40 4) (RT : ps_RI (ps_Yc E) X cX2_placeAmongFree .int) (M : ps_M) : ∀ (n : Nat) (k0 : Nat) (x1 : Int32) (x2 : Int32) (x3 : Int32) (hk0 : ps_kd k0 = 2), ok_X2_placeAmongFree_4 n k0 x1 x2 x3 M → ps_G (ps_Yc E) X (fv_X2_placeAmongFree_4 n k0 x1 x2 x3 M, M) 4 [(0, .ref (ps_ad E k0)), (1, .int x1), (2, .int x2), (3, .int x3)] [] M := by
  intro n
  induction n with
  | zero => intro k0 x1 x2 x3 hk0 h; exact h.elim
  | succ n ih =>
    intro k0 x1 x2 x3 hk0 hk
    rw [fv_X2_placeAmongFree_4_s]
    rw [ok_X2_placeAmongFree_4_s] at hk
    refine gw_iload_n C 5 dX2_placeAmongFree_4 3 rfl rfl ?_
    refine gw_aload_n C 6 dX2_placeAmongFree_5 0 rfl rfl ?_
    refine gf_X2_32 C 9 dX2_placeAmongFree_6 rfl hk0 ?_
    refine gw_ic_geP C 42 12 dX2_placeAmongFree_9 (by decide) rfl (fun c9 => ?_) (fun c9 => ?_)
    · refine gw_iload_n C 43 dX2_placeAmongFree_42 2 rfl rfl ?_
      exact RT _ _ _ _ dX2_placeAmongFree_43 rfl
    · refine gw_aload_n C 13 dX2_placeAmongFree_12 0 rfl rfl ?_
      refine gf_X2_20 C 16 dX2_placeAmongFree_13 rfl hk0 ?_
      refine gw_iload_n C 17 dX2_placeAmongFree_16 3 rfl rfl ?_
      refine gw_alK C 18 dX2_placeAmongFree_17 rfl (kd_d14 hk0) (hk.2 c9).1 ?_
      refine gw_cVp C 21 dX2_placeAmongFree_18 rfl yv_X1_isFree lk_X2_95 [] [] rfl (ct_X1_isFree (E := E) (l := ps_l X) ((k0 + 14) + 1 + (x3).toNatClampNeg) (kd_K (kd_d14 hk0) (hk.2 c9).1) M (hk.2 c9).2.1) (rc_K (kd_K (kd_d14 hk0) (hk.2 c9).1)) rfl (Nat.le_of_ble_eq_true rfl) (Nat.le_of_ble_eq_true rfl) (Nat.le_of_ble_eq_true rfl) ?_
      refine gw_if_eqP C 36 24 dX2_placeAmongFree_21 (by decide) rfl (fun c21 => ?_) (fun c21 => ?_)
      · refine gw_iinc C 39 dX2_placeAmongFree_36 rfl (y := 1) (by decide) rfl 3 rfl [(0, .ref (ps_ad E k0)), (1, .int x1), (2, .int x2), (3, .int (x3 + (1 : Int32)))] [1, 2, 3, 0] (by decide) rfl ?_
        refine gw_goto C 4 dX2_placeAmongFree_39 (by decide) ?_
        exact ih k0 x1 x2 (x3 + (1 : Int32)) hk0 ((hk.2 c9).2.2.1 c21)
      · refine gw_aload_n C 25 dX2_placeAmongFree_24 0 rfl rfl ?_
        refine gw_iload_n C 26 dX2_placeAmongFree_25 3 rfl rfl ?_
        refine gw_iload_n C 27 dX2_placeAmongFree_26 1 rfl rfl ?_
        refine gw_cVp C 30 dX2_placeAmongFree_27 rfl yv_X2_comesBefore lk_X2_98 [.int x3, .int x1] [] rfl (ct_X2_comesBefore (E := E) (l := ps_l X) k0 x3 x1 hk0 M ((hk.2 c9).2.2.2 c21).1) (rc_D hk0) rfl (Nat.le_of_ble_eq_true rfl) (Nat.le_of_ble_eq_true rfl) (Nat.le_of_ble_eq_true rfl) ?_
        refine gw_if_eqP C 36 33 dX2_placeAmongFree_30 (by decide) rfl (fun c30 => ?_) (fun c30 => ?_)
        · refine gw_iinc C 39 dX2_placeAmongFree_36 rfl (y := 1) (by decide) rfl 3 rfl [(0, .ref (ps_ad E k0)), (1, .int x1), (2, .int x2), (3, .int (x3 + (1 : Int32)))] [1, 2, 3, 0] (by decide) rfl ?_
          refine gw_goto C 4 dX2_placeAmongFree_39 (by decide) ?_
          exact ih k0 x1 x2 (x3 + (1 : Int32)) hk0 (((hk.2 c9).2.2.2 c21).2.1 c30)
        · refine gw_iinc C 36 dX2_placeAmongFree_33 rfl (y := 1) (by decide) rfl 2 rfl [(0, .ref (ps_ad E k0)), (1, .int x1), (2, .int (x2 + (1 : Int32))), (3, .int x3)] [1, 2, 0, 3] (by decide) rfl ?_
          refine gw_iinc C 39 dX2_placeAmongFree_36 rfl (y := 1) (by decide) rfl 3 rfl [(0, .ref (ps_ad E k0)), (1, .int x1), (2, .int (x2 + (1 : Int32))), (3, .int (x3 + (1 : Int32)))] [1, 2, 3, 0] (by decide) rfl ?_
          refine gw_goto C 4 dX2_placeAmongFree_39 (by decide) ?_
          exact ih k0 x1 (x2 + (1 : Int32)) (x3 + (1 : Int32)) hk0 (((hk.2 c9).2.2.2 c21).2.2 c30)
def fv_X2_placeAmongFree (k0 : Nat) (x1 : Int32) (M : ps_M) : Int32 := fv_X2_placeAmongFree_4 ps_FU k0 x1 (0 : Int32) (0 : Int32) M
def ok_X2_placeAmongFree (k0 : Nat) (x1 : Int32) (M : ps_M) : Prop := ok_X2_placeAmongFree_4 ps_FU k0 x1 (0 : Int32) (0 : Int32) M
set_option maxRecDepth 100000 in
set_option maxHeartbeats 4000000 in
theorem bw_X2_placeAmongFree {E : ps_E} {X : ps_X (Int32 × ps_M)} (C : ps_C (ps_Yc E) X cX2_placeAmongFree RX2 (some .int) 2 40 4) (RT : ps_RI (ps_Yc E) X cX2_placeAmongFree .int) (M : ps_M) (k0 : Nat) (x1 : Int32) (hk0 : ps_kd k0 = 2) (hk : ok_X2_placeAmongFree k0 x1 M) : ps_G (ps_Yc E) X (fv_X2_placeAmongFree k0 x1 M, M) 0 [(0, .ref (ps_ad E k0)), (1, .int x1)] [] M := by
  unfold fv_X2_placeAmongFree
  unfold ok_X2_placeAmongFree at hk
  refine gw_iconst C 1 dX2_placeAmongFree_0 (v := 0) (by decide) rfl ?_
  refine gw_istore_n C 2 dX2_placeAmongFree_1 rfl [(0, .ref (ps_ad E k0)), (1, .int x1), (2, .int (0 : Int32))] [1, 2, 0] (by decide) rfl ?_
  refine gw_iconst C 3 dX2_placeAmongFree_2 (v := 0) (by decide) rfl ?_
  refine gw_istore_n C 4 dX2_placeAmongFree_3 rfl [(0, .ref (ps_ad E k0)), (1, .int x1), (2, .int (0 : Int32)), (3, .int (0 : Int32))] [1, 2, 3, 0] (by decide) rfl ?_
  exact bw_X2_placeAmongFree_4 C RT M  ps_FU k0 x1 (0 : Int32) (0 : Int32) hk0 hk
theorem ct_X2_placeAmongFree {E : ps_E} {l : Launch} (k0 : Nat) (x1 : Int32) (hk0 : ps_kd k0 = 2) (M : ps_M) (hk : ok_X2_placeAmongFree k0 x1 M) : ps_CI (ps_Yc E) l yX2_placeAmongFree cX2_placeAmongFree 4 (some .int) 2 40 [.ref (ps_ad E k0), .int x1] M (fv_X2_placeAmongFree k0 x1 M, M) := ps_metI RX2 (by decide) rfl (Nat.le_of_ble_eq_true rfl) rfl (fun X _ C RT => bw_X2_placeAmongFree C RT M k0 x1 hk0 hk)
def fv_X2_placeByQueue_4 : Nat → Nat → Int32 → Int32 → Int32 → ps_M → Int32
  | 0, _, _, _, _, M => 0
  | n + 1, k0, x1, x2, x3, M => if (M k0 1) ≤ x3 then x2 else (if 0 < ((M ((k0 + 1) + 1 + 2 * (x3).toNatClampNeg) 1) - (M ((k0 + 1) + 1 + 2 * (x1).toNatClampNeg) 1)) then (fv_X2_placeByQueue_4 n k0 x1 (x2 + (1 : Int32)) (x3 + (1 : Int32)) M) else (if ((M ((k0 + 1) + 1 + 2 * (x3).toNatClampNeg) 1) - (M ((k0 + 1) + 1 + 2 * (x1).toNatClampNeg) 1)) = 0 then (if x1 ≤ x3 then (fv_X2_placeByQueue_4 n k0 x1 x2 (x3 + (1 : Int32)) M) else (fv_X2_placeByQueue_4 n k0 x1 (x2 + (1 : Int32)) (x3 + (1 : Int32)) M)) else (fv_X2_placeByQueue_4 n k0 x1 x2 (x3 + (1 : Int32)) M)))
theorem fv_X2_placeByQueue_4_s (n : Nat) (k0 : Nat) (x1 : Int32) (x2 : Int32) (x3 : Int32) (M : ps_M) : fv_X2_placeByQueue_4 (n + 1) k0 x1 x2 x3 M = (if (M k0 1) ≤ x3 then x2 else (if 0 < ((M ((k0 + 1) + 1 + 2 * (x3).toNatClampNeg) 1) - (M ((k0 + 1) + 1 + 2 * (x1).toNatClampNeg) 1)) then (fv_X2_placeByQueue_4 n k0 x1 (x2 + (1 : Int32)) (x3 + (1 : Int32)) M) else (if ((M ((k0 + 1) + 1 + 2 * (x3).toNatClampNeg) 1) - (M ((k0 + 1) + 1 + 2 * (x1).toNatClampNeg) 1)) = 0 then (if x1 ≤ x3 then (fv_X2_placeByQueue_4 n k0 x1 x2 (x3 + (1 : Int32)) M) else (fv_X2_placeByQueue_4 n k0 x1 (x2 + (1 : Int32)) (x3 + (1 : Int32)) M)) else (fv_X2_placeByQueue_4 n k0 x1 x2 (x3 + (1 : Int32)) M)))) := rfl
def ok_X2_placeByQueue_4 : Nat → Nat → Int32 → Int32 → Int32 → ps_M → Prop
  | 0, _, _, _, _, _ => False
  | n + 1, k0, x1, x2, x3, M => ((M k0 1) ≤ x3 → True) ∧ (¬ ((M k0 1) ≤ x3) → ((vp_in x3 6) ∧ ((vp_in x1 6) ∧ ((0 < ((M ((k0 + 1) + 1 + 2 * (x3).toNatClampNeg) 1) - (M ((k0 + 1) + 1 + 2 * (x1).toNatClampNeg) 1)) → (ok_X2_placeByQueue_4 n k0 x1 (x2 + (1 : Int32)) (x3 + (1 : Int32)) M)) ∧ (¬ (0 < ((M ((k0 + 1) + 1 + 2 * (x3).toNatClampNeg) 1) - (M ((k0 + 1) + 1 + 2 * (x1).toNatClampNeg) 1))) → ((((M ((k0 + 1) + 1 + 2 * (x3).toNatClampNeg) 1) - (M ((k0 + 1) + 1 + 2 * (x1).toNatClampNeg) 1)) = 0 → ((x1 ≤ x3 → (ok_X2_placeByQueue_4 n k0 x1 x2 (x3 + (1 : Int32)) M)) ∧ (¬ (x1 ≤ x3) → (ok_X2_placeByQueue_4 n k0 x1 (x2 + (1 : Int32)) (x3 + (1 : Int32)) M)))) ∧ (¬ (((M ((k0 + 1) + 1 + 2 * (x3).toNatClampNeg) 1) - (M ((k0 + 1) + 1 + 2 * (x1).toNatClampNeg) 1)) = 0) → (ok_X2_placeByQueue_4 n k0 x1 x2 (x3 + (1 : Int32)) M))))))))
theorem ok_X2_placeByQueue_4_s (n : Nat) (k0 : Nat) (x1 : Int32) (x2 : Int32) (x3 : Int32) (M : ps_M) : ok_X2_placeByQueue_4 (n + 1) k0 x1 x2 x3 M = (((M k0 1) ≤ x3 → True) ∧ (¬ ((M k0 1) ≤ x3) → ((vp_in x3 6) ∧ ((vp_in x1 6) ∧ ((0 < ((M ((k0 + 1) + 1 + 2 * (x3).toNatClampNeg) 1) - (M ((k0 + 1) + 1 + 2 * (x1).toNatClampNeg) 1)) → (ok_X2_placeByQueue_4 n k0 x1 (x2 + (1 : Int32)) (x3 + (1 : Int32)) M)) ∧ (¬ (0 < ((M ((k0 + 1) + 1 + 2 * (x3).toNatClampNeg) 1) - (M ((k0 + 1) + 1 + 2 * (x1).toNatClampNeg) 1))) → ((((M ((k0 + 1) + 1 + 2 * (x3).toNatClampNeg) 1) - (M ((k0 + 1) + 1 + 2 * (x1).toNatClampNeg) 1)) = 0 → ((x1 ≤ x3 → (ok_X2_placeByQueue_4 n k0 x1 x2 (x3 + (1 : Int32)) M)) ∧ (¬ (x1 ≤ x3) → (ok_X2_placeByQueue_4 n k0 x1 (x2 + (1 : Int32)) (x3 + (1 : Int32)) M)))) ∧ (¬ (((M ((k0 + 1) + 1 + 2 * (x3).toNatClampNeg) 1) - (M ((k0 + 1) + 1 + 2 * (x1).toNatClampNeg) 1)) = 0) → (ok_X2_placeByQueue_4 n k0 x1 x2 (x3 + (1 : Int32)) M))))))))) := rfl
set_option maxRecDepth 100000 in
set_option maxHeartbeats 4000000 in
theorem bw_X2_placeByQueue_4 {E : ps_E} {X : ps_X (Int32 × ps_M)} (C : ps_C (ps_Yc E) X cX2_placeByQueue RX2 (some .int) 0 0 5) (RT : ps_RI (ps_Yc E) X cX2_placeByQueue .int) (M : ps_M) : ∀ (n : Nat) (k0 : Nat) (x1 : Int32) (x2 : Int32) (x3 : Int32) (hk0 : ps_kd k0 = 2), ok_X2_placeByQueue_4 n k0 x1 x2 x3 M → ps_G (ps_Yc E) X (fv_X2_placeByQueue_4 n k0 x1 x2 x3 M, M) 4 [(0, .ref (ps_ad E k0)), (1, .int x1), (2, .int x2), (3, .int x3)] [] M := by
  intro n
  induction n with
  | zero => intro k0 x1 x2 x3 hk0 h; exact h.elim
  | succ n ih =>
    intro k0 x1 x2 x3 hk0 hk
    rw [fv_X2_placeByQueue_4_s]
    rw [ok_X2_placeByQueue_4_s] at hk
    refine gw_iload_n C 5 dX2_placeByQueue_4 3 rfl rfl ?_
    refine gw_aload_n C 6 dX2_placeByQueue_5 0 rfl rfl ?_
    refine gf_X2_29 C 9 dX2_placeByQueue_6 rfl hk0 ?_
    refine gw_ic_geP C 57 12 dX2_placeByQueue_9 (by decide) rfl (fun c9 => ?_) (fun c9 => ?_)
    · refine gw_iload_n C 58 dX2_placeByQueue_57 2 rfl rfl ?_
      exact RT _ _ _ _ dX2_placeByQueue_58 rfl
    · refine gw_aload_n C 13 dX2_placeByQueue_12 0 rfl rfl ?_
      refine gf_X2_11 C 16 dX2_placeByQueue_13 rfl hk0 ?_
      refine gw_iload_n C 17 dX2_placeByQueue_16 3 rfl rfl ?_
      refine gw_alS C 18 dX2_placeByQueue_17 rfl (kd_d1 hk0) (hk.2 c9).1 ?_
      refine gf_X2_61 C 21 dX2_placeByQueue_18 rfl (kd_S (kd_d1 hk0) (hk.2 c9).1) ?_
      refine gw_aload_n C 22 dX2_placeByQueue_21 0 rfl rfl ?_
      refine gf_X2_11 C 25 dX2_placeByQueue_22 rfl hk0 ?_
      refine gw_iload_n C 26 dX2_placeByQueue_25 1 rfl rfl ?_
      refine gw_alS C 27 dX2_placeByQueue_26 rfl (kd_d1 hk0) (hk.2 c9).2.1 ?_
      refine gf_X2_61 C 30 dX2_placeByQueue_27 rfl (kd_S (kd_d1 hk0) (hk.2 c9).2.1) ?_
      refine gw_isub C 31 dX2_placeByQueue_30 rfl ?_
      refine gw_istore C 33 dX2_placeByQueue_31 rfl [(0, .ref (ps_ad E k0)), (1, .int x1), (2, .int x2), (3, .int x3), (4, .int ((M ((k0 + 1) + 1 + 2 * (x3).toNatClampNeg) 1) - (M ((k0 + 1) + 1 + 2 * (x1).toNatClampNeg) 1)))] [1, 2, 3, 4, 0] (by decide) rfl ?_
      refine gw_iload C 35 dX2_placeByQueue_33 4 rfl rfl ?_
      refine gw_if_gtP C 48 38 dX2_placeByQueue_35 (by decide) rfl (fun c35 => ?_) (fun c35 => ?_)
      · refine gw_iinc C 51 dX2_placeByQueue_48 rfl (y := 1) (by decide) rfl 2 rfl [(0, .ref (ps_ad E k0)), (1, .int x1), (2, .int (x2 + (1 : Int32))), (3, .int x3), (4, .int ((M ((k0 + 1) + 1 + 2 * (x3).toNatClampNeg) 1) - (M ((k0 + 1) + 1 + 2 * (x1).toNatClampNeg) 1)))] [1, 2, 0, 3, 4] (by decide) rfl ?_
        refine gw_iinc C 54 dX2_placeByQueue_51 rfl (y := 1) (by decide) rfl 3 rfl [(0, .ref (ps_ad E k0)), (1, .int x1), (2, .int (x2 + (1 : Int32))), (3, .int (x3 + (1 : Int32))), (4, .int ((M ((k0 + 1) + 1 + 2 * (x3).toNatClampNeg) 1) - (M ((k0 + 1) + 1 + 2 * (x1).toNatClampNeg) 1)))] [1, 2, 3, 0, 4] (by decide) rfl ?_
        refine gw_goto C 4 dX2_placeByQueue_54 (by decide) ?_
        refine gw_sub C [(0, .ref (ps_ad E k0)), (1, .int x1), (2, .int (x2 + (1 : Int32))), (3, .int (x3 + (1 : Int32)))] [0, 1, 2, 3] rfl ?_
        exact ih k0 x1 (x2 + (1 : Int32)) (x3 + (1 : Int32)) hk0 ((hk.2 c9).2.2.1 c35)
      · refine gw_iload C 40 dX2_placeByQueue_38 4 rfl rfl ?_
        refine gw_if_neP C 51 43 dX2_placeByQueue_40 (by decide) rfl (fun c40 => ?_) (fun c40 => ?_)
        · refine gw_iload_n C 44 dX2_placeByQueue_43 3 rfl rfl ?_
          refine gw_iload_n C 45 dX2_placeByQueue_44 1 rfl rfl ?_
          refine gw_ic_geP C 51 48 dX2_placeByQueue_45 (by decide) rfl (fun c45 => ?_) (fun c45 => ?_)
          · refine gw_iinc C 54 dX2_placeByQueue_51 rfl (y := 1) (by decide) rfl 3 rfl [(0, .ref (ps_ad E k0)), (1, .int x1), (2, .int x2), (3, .int (x3 + (1 : Int32))), (4, .int ((M ((k0 + 1) + 1 + 2 * (x3).toNatClampNeg) 1) - (M ((k0 + 1) + 1 + 2 * (x1).toNatClampNeg) 1)))] [1, 2, 3, 0, 4] (by decide) rfl ?_
            refine gw_goto C 4 dX2_placeByQueue_54 (by decide) ?_
            refine gw_sub C [(0, .ref (ps_ad E k0)), (1, .int x1), (2, .int x2), (3, .int (x3 + (1 : Int32)))] [0, 1, 2, 3] rfl ?_
            exact ih k0 x1 x2 (x3 + (1 : Int32)) hk0 ((((hk.2 c9).2.2.2 c35).1 c40).1 c45)
          · refine gw_iinc C 51 dX2_placeByQueue_48 rfl (y := 1) (by decide) rfl 2 rfl [(0, .ref (ps_ad E k0)), (1, .int x1), (2, .int (x2 + (1 : Int32))), (3, .int x3), (4, .int ((M ((k0 + 1) + 1 + 2 * (x3).toNatClampNeg) 1) - (M ((k0 + 1) + 1 + 2 * (x1).toNatClampNeg) 1)))] [1, 2, 0, 3, 4] (by decide) rfl ?_
            refine gw_iinc C 54 dX2_placeByQueue_51 rfl (y := 1) (by decide) rfl 3 rfl [(0, .ref (ps_ad E k0)), (1, .int x1), (2, .int (x2 + (1 : Int32))), (3, .int (x3 + (1 : Int32))), (4, .int ((M ((k0 + 1) + 1 + 2 * (x3).toNatClampNeg) 1) - (M ((k0 + 1) + 1 + 2 * (x1).toNatClampNeg) 1)))] [1, 2, 3, 0, 4] (by decide) rfl ?_
            refine gw_goto C 4 dX2_placeByQueue_54 (by decide) ?_
            refine gw_sub C [(0, .ref (ps_ad E k0)), (1, .int x1), (2, .int (x2 + (1 : Int32))), (3, .int (x3 + (1 : Int32)))] [0, 1, 2, 3] rfl ?_
            exact ih k0 x1 (x2 + (1 : Int32)) (x3 + (1 : Int32)) hk0 ((((hk.2 c9).2.2.2 c35).1 c40).2 c45)
        · refine gw_iinc C 54 dX2_placeByQueue_51 rfl (y := 1) (by decide) rfl 3 rfl [(0, .ref (ps_ad E k0)), (1, .int x1), (2, .int x2), (3, .int (x3 + (1 : Int32))), (4, .int ((M ((k0 + 1) + 1 + 2 * (x3).toNatClampNeg) 1) - (M ((k0 + 1) + 1 + 2 * (x1).toNatClampNeg) 1)))] [1, 2, 3, 0, 4] (by decide) rfl ?_
          refine gw_goto C 4 dX2_placeByQueue_54 (by decide) ?_
          refine gw_sub C [(0, .ref (ps_ad E k0)), (1, .int x1), (2, .int x2), (3, .int (x3 + (1 : Int32)))] [0, 1, 2, 3] rfl ?_
          exact ih k0 x1 x2 (x3 + (1 : Int32)) hk0 (((hk.2 c9).2.2.2 c35).2 c40)
def fv_X2_placeByQueue (k0 : Nat) (x1 : Int32) (M : ps_M) : Int32 := fv_X2_placeByQueue_4 ps_FU k0 x1 (0 : Int32) (0 : Int32) M
def ok_X2_placeByQueue (k0 : Nat) (x1 : Int32) (M : ps_M) : Prop := ok_X2_placeByQueue_4 ps_FU k0 x1 (0 : Int32) (0 : Int32) M
set_option maxRecDepth 100000 in
set_option maxHeartbeats 4000000 in
theorem bw_X2_placeByQueue {E : ps_E} {X : ps_X (Int32 × ps_M)} (C : ps_C (ps_Yc E) X cX2_placeByQueue RX2 (some .int) 0 0 5) (RT : ps_RI (ps_Yc E) X cX2_placeByQueue .int) (M : ps_M) (k0 : Nat) (x1 : Int32) (hk0 : ps_kd k0 = 2) (hk : ok_X2_placeByQueue k0 x1 M) : ps_G (ps_Yc E) X (fv_X2_placeByQueue k0 x1 M, M) 0 [(0, .ref (ps_ad E k0)), (1, .int x1)] [] M := by
  unfold fv_X2_placeByQueue
  unfold ok_X2_placeByQueue at hk
  refine gw_iconst C 1 dX2_placeByQueue_0 (v := 0) (by decide) rfl ?_
  refine gw_istore_n C 2 dX2_placeByQueue_1 rfl [(0, .ref (ps_ad E k0)), (1, .int x1), (2, .int (0 : Int32))] [1, 2, 0] (by decide) rfl ?_
  refine gw_iconst C 3 dX2_placeByQueue_2 (v := 0) (by decide) rfl ?_
  refine gw_istore_n C 4 dX2_placeByQueue_3 rfl [(0, .ref (ps_ad E k0)), (1, .int x1), (2, .int (0 : Int32)), (3, .int (0 : Int32))] [1, 2, 3, 0] (by decide) rfl ?_
  exact bw_X2_placeByQueue_4 C RT M  ps_FU k0 x1 (0 : Int32) (0 : Int32) hk0 hk
theorem ct_X2_placeByQueue {E : ps_E} {l : Launch} (k0 : Nat) (x1 : Int32) (hk0 : ps_kd k0 = 2) (M : ps_M) (hk : ok_X2_placeByQueue k0 x1 M) : ps_CI (ps_Yc E) l yX2_placeByQueue cX2_placeByQueue 5 (some .int) 0 0 [.ref (ps_ad E k0), .int x1] M (fv_X2_placeByQueue k0 x1 M, M) := ps_metI RX2 (by decide) rfl (Nat.le_of_ble_eq_true rfl) rfl (fun X _ C RT => bw_X2_placeByQueue C RT M k0 x1 hk0 hk)
def fv_X2_clerksOnDuty_4 : Nat → Nat → Int32 → Int32 → ps_M → Int32
  | 0, _, _, _, M => 0
  | n + 1, k0, x1, x2, M => if (M k0 2) ≤ x2 then x1 else (if (fv_X1_isOnDuty ((k0 + 14) + 1 + (x2).toNatClampNeg) M) = 0 then (fv_X2_clerksOnDuty_4 n k0 x1 (x2 + (1 : Int32)) M) else (fv_X2_clerksOnDuty_4 n k0 (x1 + (1 : Int32)) (x2 + (1 : Int32)) M))
theorem fv_X2_clerksOnDuty_4_s (n : Nat) (k0 : Nat) (x1 : Int32) (x2 : Int32) (M : ps_M) : fv_X2_clerksOnDuty_4 (n + 1) k0 x1 x2 M = (if (M k0 2) ≤ x2 then x1 else (if (fv_X1_isOnDuty ((k0 + 14) + 1 + (x2).toNatClampNeg) M) = 0 then (fv_X2_clerksOnDuty_4 n k0 x1 (x2 + (1 : Int32)) M) else (fv_X2_clerksOnDuty_4 n k0 (x1 + (1 : Int32)) (x2 + (1 : Int32)) M))) := rfl
def ok_X2_clerksOnDuty_4 : Nat → Nat → Int32 → Int32 → ps_M → Prop
  | 0, _, _, _, _ => False
  | n + 1, k0, x1, x2, M => ((M k0 2) ≤ x2 → True) ∧ (¬ ((M k0 2) ≤ x2) → ((vp_in x2 12) ∧ ((ok_X1_isOnDuty ((k0 + 14) + 1 + (x2).toNatClampNeg) M) ∧ (((fv_X1_isOnDuty ((k0 + 14) + 1 + (x2).toNatClampNeg) M) = 0 → (ok_X2_clerksOnDuty_4 n k0 x1 (x2 + (1 : Int32)) M)) ∧ (¬ ((fv_X1_isOnDuty ((k0 + 14) + 1 + (x2).toNatClampNeg) M) = 0) → (ok_X2_clerksOnDuty_4 n k0 (x1 + (1 : Int32)) (x2 + (1 : Int32)) M))))))
theorem ok_X2_clerksOnDuty_4_s (n : Nat) (k0 : Nat) (x1 : Int32) (x2 : Int32) (M : ps_M) : ok_X2_clerksOnDuty_4 (n + 1) k0 x1 x2 M = (((M k0 2) ≤ x2 → True) ∧ (¬ ((M k0 2) ≤ x2) → ((vp_in x2 12) ∧ ((ok_X1_isOnDuty ((k0 + 14) + 1 + (x2).toNatClampNeg) M) ∧ (((fv_X1_isOnDuty ((k0 + 14) + 1 + (x2).toNatClampNeg) M) = 0 → (ok_X2_clerksOnDuty_4 n k0 x1 (x2 + (1 : Int32)) M)) ∧ (¬ ((fv_X1_isOnDuty ((k0 + 14) + 1 + (x2).toNatClampNeg) M) = 0) → (ok_X2_clerksOnDuty_4 n k0 (x1 + (1 : Int32)) (x2 + (1 : Int32)) M))))))) := rfl
set_option maxRecDepth 100000 in
set_option maxHeartbeats 4000000 in
theorem bw_X2_clerksOnDuty_4 {E : ps_E} {X : ps_X (Int32 × ps_M)} (C : ps_C (ps_Yc E) X cX2_clerksOnDuty RX2 (some .int) 1 20 3) (RT : ps_RI (ps_Yc E) X cX2_clerksOnDuty .int) (M : ps_M) : ∀ (n : Nat) (k0 : Nat) (x1 : Int32) (x2 : Int32) (hk0 : ps_kd k0 = 2), ok_X2_clerksOnDuty_4 n k0 x1 x2 M → ps_G (ps_Yc E) X (fv_X2_clerksOnDuty_4 n k0 x1 x2 M, M) 4 [(0, .ref (ps_ad E k0)), (1, .int x1), (2, .int x2)] [] M := by
  intro n
  induction n with
  | zero => intro k0 x1 x2 hk0 h; exact h.elim
  | succ n ih =>
    intro k0 x1 x2 hk0 hk
    rw [fv_X2_clerksOnDuty_4_s]
    rw [ok_X2_clerksOnDuty_4_s] at hk
    refine gw_iload_n C 5 dX2_clerksOnDuty_4 2 rfl rfl ?_
    refine gw_aload_n C 6 dX2_clerksOnDuty_5 0 rfl rfl ?_
    refine gf_X2_32 C 9 dX2_clerksOnDuty_6 rfl hk0 ?_
    refine gw_ic_geP C 33 12 dX2_clerksOnDuty_9 (by decide) rfl (fun c9 => ?_) (fun c9 => ?_)
    · refine gw_iload_n C 34 dX2_clerksOnDuty_33 1 rfl rfl ?_
      exact RT _ _ _ _ dX2_clerksOnDuty_34 rfl
    · refine gw_aload_n C 13 dX2_clerksOnDuty_12 0 rfl rfl ?_
      refine gf_X2_20 C 16 dX2_clerksOnDuty_13 rfl hk0 ?_
      refine gw_iload_n C 17 dX2_clerksOnDuty_16 2 rfl rfl ?_
      refine gw_alK C 18 dX2_clerksOnDuty_17 rfl (kd_d14 hk0) (hk.2 c9).1 ?_
      refine gw_cVp C 21 dX2_clerksOnDuty_18 rfl yv_X1_isOnDuty lk_X2_105 [] [] rfl (ct_X1_isOnDuty (E := E) (l := ps_l X) ((k0 + 14) + 1 + (x2).toNatClampNeg) (kd_K (kd_d14 hk0) (hk.2 c9).1) M (hk.2 c9).2.1) (rc_K (kd_K (kd_d14 hk0) (hk.2 c9).1)) rfl (Nat.le_of_ble_eq_true rfl) (Nat.le_of_ble_eq_true rfl) (Nat.le_of_ble_eq_true rfl) ?_
      refine gw_if_eqP C 27 24 dX2_clerksOnDuty_21 (by decide) rfl (fun c21 => ?_) (fun c21 => ?_)
      · refine gw_iinc C 30 dX2_clerksOnDuty_27 rfl (y := 1) (by decide) rfl 2 rfl [(0, .ref (ps_ad E k0)), (1, .int x1), (2, .int (x2 + (1 : Int32)))] [1, 2, 0] (by decide) rfl ?_
        refine gw_goto C 4 dX2_clerksOnDuty_30 (by decide) ?_
        exact ih k0 x1 (x2 + (1 : Int32)) hk0 ((hk.2 c9).2.2.1 c21)
      · refine gw_iinc C 27 dX2_clerksOnDuty_24 rfl (y := 1) (by decide) rfl 1 rfl [(0, .ref (ps_ad E k0)), (1, .int (x1 + (1 : Int32))), (2, .int x2)] [1, 0, 2] (by decide) rfl ?_
        refine gw_iinc C 30 dX2_clerksOnDuty_27 rfl (y := 1) (by decide) rfl 2 rfl [(0, .ref (ps_ad E k0)), (1, .int (x1 + (1 : Int32))), (2, .int (x2 + (1 : Int32)))] [1, 2, 0] (by decide) rfl ?_
        refine gw_goto C 4 dX2_clerksOnDuty_30 (by decide) ?_
        exact ih k0 (x1 + (1 : Int32)) (x2 + (1 : Int32)) hk0 ((hk.2 c9).2.2.2 c21)
def fv_X2_clerksOnDuty (k0 : Nat) (M : ps_M) : Int32 := fv_X2_clerksOnDuty_4 ps_FU k0 (0 : Int32) (0 : Int32) M
def ok_X2_clerksOnDuty (k0 : Nat) (M : ps_M) : Prop := ok_X2_clerksOnDuty_4 ps_FU k0 (0 : Int32) (0 : Int32) M
set_option maxRecDepth 100000 in
set_option maxHeartbeats 4000000 in
theorem bw_X2_clerksOnDuty {E : ps_E} {X : ps_X (Int32 × ps_M)} (C : ps_C (ps_Yc E) X cX2_clerksOnDuty RX2 (some .int) 1 20 3) (RT : ps_RI (ps_Yc E) X cX2_clerksOnDuty .int) (M : ps_M) (k0 : Nat) (hk0 : ps_kd k0 = 2) (hk : ok_X2_clerksOnDuty k0 M) : ps_G (ps_Yc E) X (fv_X2_clerksOnDuty k0 M, M) 0 [(0, .ref (ps_ad E k0))] [] M := by
  unfold fv_X2_clerksOnDuty
  unfold ok_X2_clerksOnDuty at hk
  refine gw_iconst C 1 dX2_clerksOnDuty_0 (v := 0) (by decide) rfl ?_
  refine gw_istore_n C 2 dX2_clerksOnDuty_1 rfl [(0, .ref (ps_ad E k0)), (1, .int (0 : Int32))] [1, 0] (by decide) rfl ?_
  refine gw_iconst C 3 dX2_clerksOnDuty_2 (v := 0) (by decide) rfl ?_
  refine gw_istore_n C 4 dX2_clerksOnDuty_3 rfl [(0, .ref (ps_ad E k0)), (1, .int (0 : Int32)), (2, .int (0 : Int32))] [1, 2, 0] (by decide) rfl ?_
  exact bw_X2_clerksOnDuty_4 C RT M  ps_FU k0 (0 : Int32) (0 : Int32) hk0 hk
theorem ct_X2_clerksOnDuty {E : ps_E} {l : Launch} (k0 : Nat) (hk0 : ps_kd k0 = 2) (M : ps_M) (hk : ok_X2_clerksOnDuty k0 M) : ps_CI (ps_Yc E) l yX2_clerksOnDuty cX2_clerksOnDuty 3 (some .int) 1 20 [.ref (ps_ad E k0)] M (fv_X2_clerksOnDuty k0 M, M) := ps_metI RX2 (by decide) rfl (Nat.le_of_ble_eq_true rfl) rfl (fun X _ C RT => bw_X2_clerksOnDuty C RT M k0 hk0 hk)
def fv_X2_freeClerks_4 : Nat → Nat → Int32 → Int32 → ps_M → Int32
  | 0, _, _, _, M => 0
  | n + 1, k0, x1, x2, M => if (M k0 2) ≤ x2 then x1 else (if (fv_X1_isFree ((k0 + 14) + 1 + (x2).toNatClampNeg) M) = 0 then (fv_X2_freeClerks_4 n k0 x1 (x2 + (1 : Int32)) M) else (fv_X2_freeClerks_4 n k0 (x1 + (1 : Int32)) (x2 + (1 : Int32)) M))
theorem fv_X2_freeClerks_4_s (n : Nat) (k0 : Nat) (x1 : Int32) (x2 : Int32) (M : ps_M) : fv_X2_freeClerks_4 (n + 1) k0 x1 x2 M = (if (M k0 2) ≤ x2 then x1 else (if (fv_X1_isFree ((k0 + 14) + 1 + (x2).toNatClampNeg) M) = 0 then (fv_X2_freeClerks_4 n k0 x1 (x2 + (1 : Int32)) M) else (fv_X2_freeClerks_4 n k0 (x1 + (1 : Int32)) (x2 + (1 : Int32)) M))) := rfl
def ok_X2_freeClerks_4 : Nat → Nat → Int32 → Int32 → ps_M → Prop
  | 0, _, _, _, _ => False
  | n + 1, k0, x1, x2, M => ((M k0 2) ≤ x2 → True) ∧ (¬ ((M k0 2) ≤ x2) → ((vp_in x2 12) ∧ ((ok_X1_isFree ((k0 + 14) + 1 + (x2).toNatClampNeg) M) ∧ (((fv_X1_isFree ((k0 + 14) + 1 + (x2).toNatClampNeg) M) = 0 → (ok_X2_freeClerks_4 n k0 x1 (x2 + (1 : Int32)) M)) ∧ (¬ ((fv_X1_isFree ((k0 + 14) + 1 + (x2).toNatClampNeg) M) = 0) → (ok_X2_freeClerks_4 n k0 (x1 + (1 : Int32)) (x2 + (1 : Int32)) M))))))
theorem ok_X2_freeClerks_4_s (n : Nat) (k0 : Nat) (x1 : Int32) (x2 : Int32) (M : ps_M) : ok_X2_freeClerks_4 (n + 1) k0 x1 x2 M = (((M k0 2) ≤ x2 → True) ∧ (¬ ((M k0 2) ≤ x2) → ((vp_in x2 12) ∧ ((ok_X1_isFree ((k0 + 14) + 1 + (x2).toNatClampNeg) M) ∧ (((fv_X1_isFree ((k0 + 14) + 1 + (x2).toNatClampNeg) M) = 0 → (ok_X2_freeClerks_4 n k0 x1 (x2 + (1 : Int32)) M)) ∧ (¬ ((fv_X1_isFree ((k0 + 14) + 1 + (x2).toNatClampNeg) M) = 0) → (ok_X2_freeClerks_4 n k0 (x1 + (1 : Int32)) (x2 + (1 : Int32)) M))))))) := rfl
set_option maxRecDepth 100000 in
set_option maxHeartbeats 4000000 in
theorem bw_X2_freeClerks_4 {E : ps_E} {X : ps_X (Int32 × ps_M)} (C : ps_C (ps_Yc E) X cX2_freeClerks RX2 (some .int) 2 40 3) (RT : ps_RI (ps_Yc E) X cX2_freeClerks .int) (M : ps_M) : ∀ (n : Nat) (k0 : Nat) (x1 : Int32) (x2 : Int32) (hk0 : ps_kd k0 = 2), ok_X2_freeClerks_4 n k0 x1 x2 M → ps_G (ps_Yc E) X (fv_X2_freeClerks_4 n k0 x1 x2 M, M) 4 [(0, .ref (ps_ad E k0)), (1, .int x1), (2, .int x2)] [] M := by
  intro n
  induction n with
  | zero => intro k0 x1 x2 hk0 h; exact h.elim
  | succ n ih =>
    intro k0 x1 x2 hk0 hk
    rw [fv_X2_freeClerks_4_s]
    rw [ok_X2_freeClerks_4_s] at hk
    refine gw_iload_n C 5 dX2_freeClerks_4 2 rfl rfl ?_
    refine gw_aload_n C 6 dX2_freeClerks_5 0 rfl rfl ?_
    refine gf_X2_32 C 9 dX2_freeClerks_6 rfl hk0 ?_
    refine gw_ic_geP C 33 12 dX2_freeClerks_9 (by decide) rfl (fun c9 => ?_) (fun c9 => ?_)
    · refine gw_iload_n C 34 dX2_freeClerks_33 1 rfl rfl ?_
      exact RT _ _ _ _ dX2_freeClerks_34 rfl
    · refine gw_aload_n C 13 dX2_freeClerks_12 0 rfl rfl ?_
      refine gf_X2_20 C 16 dX2_freeClerks_13 rfl hk0 ?_
      refine gw_iload_n C 17 dX2_freeClerks_16 2 rfl rfl ?_
      refine gw_alK C 18 dX2_freeClerks_17 rfl (kd_d14 hk0) (hk.2 c9).1 ?_
      refine gw_cVp C 21 dX2_freeClerks_18 rfl yv_X1_isFree lk_X2_95 [] [] rfl (ct_X1_isFree (E := E) (l := ps_l X) ((k0 + 14) + 1 + (x2).toNatClampNeg) (kd_K (kd_d14 hk0) (hk.2 c9).1) M (hk.2 c9).2.1) (rc_K (kd_K (kd_d14 hk0) (hk.2 c9).1)) rfl (Nat.le_of_ble_eq_true rfl) (Nat.le_of_ble_eq_true rfl) (Nat.le_of_ble_eq_true rfl) ?_
      refine gw_if_eqP C 27 24 dX2_freeClerks_21 (by decide) rfl (fun c21 => ?_) (fun c21 => ?_)
      · refine gw_iinc C 30 dX2_freeClerks_27 rfl (y := 1) (by decide) rfl 2 rfl [(0, .ref (ps_ad E k0)), (1, .int x1), (2, .int (x2 + (1 : Int32)))] [1, 2, 0] (by decide) rfl ?_
        refine gw_goto C 4 dX2_freeClerks_30 (by decide) ?_
        exact ih k0 x1 (x2 + (1 : Int32)) hk0 ((hk.2 c9).2.2.1 c21)
      · refine gw_iinc C 27 dX2_freeClerks_24 rfl (y := 1) (by decide) rfl 1 rfl [(0, .ref (ps_ad E k0)), (1, .int (x1 + (1 : Int32))), (2, .int x2)] [1, 0, 2] (by decide) rfl ?_
        refine gw_iinc C 30 dX2_freeClerks_27 rfl (y := 1) (by decide) rfl 2 rfl [(0, .ref (ps_ad E k0)), (1, .int (x1 + (1 : Int32))), (2, .int (x2 + (1 : Int32)))] [1, 2, 0] (by decide) rfl ?_
        refine gw_goto C 4 dX2_freeClerks_30 (by decide) ?_
        exact ih k0 (x1 + (1 : Int32)) (x2 + (1 : Int32)) hk0 ((hk.2 c9).2.2.2 c21)
def fv_X2_freeClerks (k0 : Nat) (M : ps_M) : Int32 := fv_X2_freeClerks_4 ps_FU k0 (0 : Int32) (0 : Int32) M
def ok_X2_freeClerks (k0 : Nat) (M : ps_M) : Prop := ok_X2_freeClerks_4 ps_FU k0 (0 : Int32) (0 : Int32) M
set_option maxRecDepth 100000 in
set_option maxHeartbeats 4000000 in
theorem bw_X2_freeClerks {E : ps_E} {X : ps_X (Int32 × ps_M)} (C : ps_C (ps_Yc E) X cX2_freeClerks RX2 (some .int) 2 40 3) (RT : ps_RI (ps_Yc E) X cX2_freeClerks .int) (M : ps_M) (k0 : Nat) (hk0 : ps_kd k0 = 2) (hk : ok_X2_freeClerks k0 M) : ps_G (ps_Yc E) X (fv_X2_freeClerks k0 M, M) 0 [(0, .ref (ps_ad E k0))] [] M := by
  unfold fv_X2_freeClerks
  unfold ok_X2_freeClerks at hk
  refine gw_iconst C 1 dX2_freeClerks_0 (v := 0) (by decide) rfl ?_
  refine gw_istore_n C 2 dX2_freeClerks_1 rfl [(0, .ref (ps_ad E k0)), (1, .int (0 : Int32))] [1, 0] (by decide) rfl ?_
  refine gw_iconst C 3 dX2_freeClerks_2 (v := 0) (by decide) rfl ?_
  refine gw_istore_n C 4 dX2_freeClerks_3 rfl [(0, .ref (ps_ad E k0)), (1, .int (0 : Int32)), (2, .int (0 : Int32))] [1, 2, 0] (by decide) rfl ?_
  exact bw_X2_freeClerks_4 C RT M  ps_FU k0 (0 : Int32) (0 : Int32) hk0 hk
theorem ct_X2_freeClerks {E : ps_E} {l : Launch} (k0 : Nat) (hk0 : ps_kd k0 = 2) (M : ps_M) (hk : ok_X2_freeClerks k0 M) : ps_CI (ps_Yc E) l yX2_freeClerks cX2_freeClerks 3 (some .int) 2 40 [.ref (ps_ad E k0)] M (fv_X2_freeClerks k0 M, M) := ps_metI RX2 (by decide) rfl (Nat.le_of_ble_eq_true rfl) rfl (fun X _ C RT => bw_X2_freeClerks C RT M k0 hk0 hk)
def fv_X2_stationsCounted_4 : Nat → Nat → Int32 → Int32 → Int32 → ps_M → Int32
  | 0, _, _, _, _, M => 0
  | n + 1, k0, x1, x2, x3, M => if (M k0 1) ≤ x3 then x2 else (if (fv_X4_isCounted ((k0 + 1) + 1 + 2 * (x3).toNatClampNeg) M) = 0 then (fv_X2_stationsCounted_4 n k0 x1 x2 (x3 + (1 : Int32)) M) else (if (fv_X4_countAgrees ((k0 + 1) + 1 + 2 * (x3).toNatClampNeg) M) = x1 then (fv_X2_stationsCounted_4 n k0 x1 (x2 + (1 : Int32)) (x3 + (1 : Int32)) M) else (fv_X2_stationsCounted_4 n k0 x1 x2 (x3 + (1 : Int32)) M)))
theorem fv_X2_stationsCounted_4_s (n : Nat) (k0 : Nat) (x1 : Int32) (x2 : Int32) (x3 : Int32) (M : ps_M) : fv_X2_stationsCounted_4 (n + 1) k0 x1 x2 x3 M = (if (M k0 1) ≤ x3 then x2 else (if (fv_X4_isCounted ((k0 + 1) + 1 + 2 * (x3).toNatClampNeg) M) = 0 then (fv_X2_stationsCounted_4 n k0 x1 x2 (x3 + (1 : Int32)) M) else (if (fv_X4_countAgrees ((k0 + 1) + 1 + 2 * (x3).toNatClampNeg) M) = x1 then (fv_X2_stationsCounted_4 n k0 x1 (x2 + (1 : Int32)) (x3 + (1 : Int32)) M) else (fv_X2_stationsCounted_4 n k0 x1 x2 (x3 + (1 : Int32)) M)))) := rfl
def ok_X2_stationsCounted_4 : Nat → Nat → Int32 → Int32 → Int32 → ps_M → Prop
  | 0, _, _, _, _, _ => False
  | n + 1, k0, x1, x2, x3, M => ((M k0 1) ≤ x3 → True) ∧ (¬ ((M k0 1) ≤ x3) → ((vp_in x3 6) ∧ ((ok_X4_isCounted ((k0 + 1) + 1 + 2 * (x3).toNatClampNeg) M) ∧ (((fv_X4_isCounted ((k0 + 1) + 1 + 2 * (x3).toNatClampNeg) M) = 0 → (ok_X2_stationsCounted_4 n k0 x1 x2 (x3 + (1 : Int32)) M)) ∧ (¬ ((fv_X4_isCounted ((k0 + 1) + 1 + 2 * (x3).toNatClampNeg) M) = 0) → ((vp_in x3 6) ∧ ((ok_X4_countAgrees ((k0 + 1) + 1 + 2 * (x3).toNatClampNeg) M) ∧ (((fv_X4_countAgrees ((k0 + 1) + 1 + 2 * (x3).toNatClampNeg) M) = x1 → (ok_X2_stationsCounted_4 n k0 x1 (x2 + (1 : Int32)) (x3 + (1 : Int32)) M)) ∧ (¬ ((fv_X4_countAgrees ((k0 + 1) + 1 + 2 * (x3).toNatClampNeg) M) = x1) → (ok_X2_stationsCounted_4 n k0 x1 x2 (x3 + (1 : Int32)) M))))))))))
theorem ok_X2_stationsCounted_4_s (n : Nat) (k0 : Nat) (x1 : Int32) (x2 : Int32) (x3 : Int32) (M : ps_M) : ok_X2_stationsCounted_4 (n + 1) k0 x1 x2 x3 M = (((M k0 1) ≤ x3 → True) ∧ (¬ ((M k0 1) ≤ x3) → ((vp_in x3 6) ∧ ((ok_X4_isCounted ((k0 + 1) + 1 + 2 * (x3).toNatClampNeg) M) ∧ (((fv_X4_isCounted ((k0 + 1) + 1 + 2 * (x3).toNatClampNeg) M) = 0 → (ok_X2_stationsCounted_4 n k0 x1 x2 (x3 + (1 : Int32)) M)) ∧ (¬ ((fv_X4_isCounted ((k0 + 1) + 1 + 2 * (x3).toNatClampNeg) M) = 0) → ((vp_in x3 6) ∧ ((ok_X4_countAgrees ((k0 + 1) + 1 + 2 * (x3).toNatClampNeg) M) ∧ (((fv_X4_countAgrees ((k0 + 1) + 1 + 2 * (x3).toNatClampNeg) M) = x1 → (ok_X2_stationsCounted_4 n k0 x1 (x2 + (1 : Int32)) (x3 + (1 : Int32)) M)) ∧ (¬ ((fv_X4_countAgrees ((k0 + 1) + 1 + 2 * (x3).toNatClampNeg) M) = x1) → (ok_X2_stationsCounted_4 n k0 x1 x2 (x3 + (1 : Int32)) M))))))))))) := rfl
set_option maxRecDepth 100000 in
set_option maxHeartbeats 4000000 in
theorem bw_X2_stationsCounted_4 {E : ps_E} {X : ps_X (Int32 × ps_M)} (C : ps_C (ps_Yc E) X cX2_stationsCounted RX2 (some .int) 1 20 4) (RT : ps_RI (ps_Yc E) X cX2_stationsCounted .int) (M : ps_M) : ∀ (n : Nat) (k0 : Nat) (x1 : Int32) (x2 : Int32) (x3 : Int32) (hk0 : ps_kd k0 = 2), ok_X2_stationsCounted_4 n k0 x1 x2 x3 M → ps_G (ps_Yc E) X (fv_X2_stationsCounted_4 n k0 x1 x2 x3 M, M) 4 [(0, .ref (ps_ad E k0)), (1, .int x1), (2, .int x2), (3, .int x3)] [] M := by
  intro n
  induction n with
  | zero => intro k0 x1 x2 x3 hk0 h; exact h.elim
  | succ n ih =>
    intro k0 x1 x2 x3 hk0 hk
    rw [fv_X2_stationsCounted_4_s]
    rw [ok_X2_stationsCounted_4_s] at hk
    refine gw_iload_n C 5 dX2_stationsCounted_4 3 rfl rfl ?_
    refine gw_aload_n C 6 dX2_stationsCounted_5 0 rfl rfl ?_
    refine gf_X2_29 C 9 dX2_stationsCounted_6 rfl hk0 ?_
    refine gw_ic_geP C 46 12 dX2_stationsCounted_9 (by decide) rfl (fun c9 => ?_) (fun c9 => ?_)
    · refine gw_iload_n C 47 dX2_stationsCounted_46 2 rfl rfl ?_
      exact RT _ _ _ _ dX2_stationsCounted_47 rfl
    · refine gw_aload_n C 13 dX2_stationsCounted_12 0 rfl rfl ?_
      refine gf_X2_11 C 16 dX2_stationsCounted_13 rfl hk0 ?_
      refine gw_iload_n C 17 dX2_stationsCounted_16 3 rfl rfl ?_
      refine gw_alS C 18 dX2_stationsCounted_17 rfl (kd_d1 hk0) (hk.2 c9).1 ?_
      refine gw_cVp C 21 dX2_stationsCounted_18 rfl yv_X4_isCounted lk_X2_108 [] [] rfl (ct_X4_isCounted (E := E) (l := ps_l X) ((k0 + 1) + 1 + 2 * (x3).toNatClampNeg) (kd_S (kd_d1 hk0) (hk.2 c9).1) M (hk.2 c9).2.1) (rc_S (kd_S (kd_d1 hk0) (hk.2 c9).1)) rfl (Nat.le_of_ble_eq_true rfl) (Nat.le_of_ble_eq_true rfl) (Nat.le_of_ble_eq_true rfl) ?_
      refine gw_if_eqP C 40 24 dX2_stationsCounted_21 (by decide) rfl (fun c21 => ?_) (fun c21 => ?_)
      · refine gw_iinc C 43 dX2_stationsCounted_40 rfl (y := 1) (by decide) rfl 3 rfl [(0, .ref (ps_ad E k0)), (1, .int x1), (2, .int x2), (3, .int (x3 + (1 : Int32)))] [1, 2, 3, 0] (by decide) rfl ?_
        refine gw_goto C 4 dX2_stationsCounted_43 (by decide) ?_
        exact ih k0 x1 x2 (x3 + (1 : Int32)) hk0 ((hk.2 c9).2.2.1 c21)
      · refine gw_aload_n C 25 dX2_stationsCounted_24 0 rfl rfl ?_
        refine gf_X2_11 C 28 dX2_stationsCounted_25 rfl hk0 ?_
        refine gw_iload_n C 29 dX2_stationsCounted_28 3 rfl rfl ?_
        refine gw_alS C 30 dX2_stationsCounted_29 rfl (kd_d1 hk0) ((hk.2 c9).2.2.2 c21).1 ?_
        refine gw_cVp C 33 dX2_stationsCounted_30 rfl yv_X4_countAgrees lk_X2_111 [] [] rfl (ct_X4_countAgrees (E := E) (l := ps_l X) ((k0 + 1) + 1 + 2 * (x3).toNatClampNeg) (kd_S (kd_d1 hk0) ((hk.2 c9).2.2.2 c21).1) M ((hk.2 c9).2.2.2 c21).2.1) (rc_S (kd_S (kd_d1 hk0) ((hk.2 c9).2.2.2 c21).1)) rfl (Nat.le_of_ble_eq_true rfl) (Nat.le_of_ble_eq_true rfl) (Nat.le_of_ble_eq_true rfl) ?_
        refine gw_iload_n C 34 dX2_stationsCounted_33 1 rfl rfl ?_
        refine gw_ic_neP C 40 37 dX2_stationsCounted_34 (by decide) rfl (fun c34 => ?_) (fun c34 => ?_)
        · refine gw_iinc C 40 dX2_stationsCounted_37 rfl (y := 1) (by decide) rfl 2 rfl [(0, .ref (ps_ad E k0)), (1, .int x1), (2, .int (x2 + (1 : Int32))), (3, .int x3)] [1, 2, 0, 3] (by decide) rfl ?_
          refine gw_iinc C 43 dX2_stationsCounted_40 rfl (y := 1) (by decide) rfl 3 rfl [(0, .ref (ps_ad E k0)), (1, .int x1), (2, .int (x2 + (1 : Int32))), (3, .int (x3 + (1 : Int32)))] [1, 2, 3, 0] (by decide) rfl ?_
          refine gw_goto C 4 dX2_stationsCounted_43 (by decide) ?_
          exact ih k0 x1 (x2 + (1 : Int32)) (x3 + (1 : Int32)) hk0 (((hk.2 c9).2.2.2 c21).2.2.1 c34)
        · refine gw_iinc C 43 dX2_stationsCounted_40 rfl (y := 1) (by decide) rfl 3 rfl [(0, .ref (ps_ad E k0)), (1, .int x1), (2, .int x2), (3, .int (x3 + (1 : Int32)))] [1, 2, 3, 0] (by decide) rfl ?_
          refine gw_goto C 4 dX2_stationsCounted_43 (by decide) ?_
          exact ih k0 x1 x2 (x3 + (1 : Int32)) hk0 (((hk.2 c9).2.2.2 c21).2.2.2 c34)
def fv_X2_stationsCounted (k0 : Nat) (x1 : Int32) (M : ps_M) : Int32 := fv_X2_stationsCounted_4 ps_FU k0 x1 (0 : Int32) (0 : Int32) M
def ok_X2_stationsCounted (k0 : Nat) (x1 : Int32) (M : ps_M) : Prop := ok_X2_stationsCounted_4 ps_FU k0 x1 (0 : Int32) (0 : Int32) M
set_option maxRecDepth 100000 in
set_option maxHeartbeats 4000000 in
theorem bw_X2_stationsCounted {E : ps_E} {X : ps_X (Int32 × ps_M)} (C : ps_C (ps_Yc E) X cX2_stationsCounted RX2 (some .int) 1 20 4) (RT : ps_RI (ps_Yc E) X cX2_stationsCounted .int) (M : ps_M) (k0 : Nat) (x1 : Int32) (hk0 : ps_kd k0 = 2) (hk : ok_X2_stationsCounted k0 x1 M) : ps_G (ps_Yc E) X (fv_X2_stationsCounted k0 x1 M, M) 0 [(0, .ref (ps_ad E k0)), (1, .int x1)] [] M := by
  unfold fv_X2_stationsCounted
  unfold ok_X2_stationsCounted at hk
  refine gw_iconst C 1 dX2_stationsCounted_0 (v := 0) (by decide) rfl ?_
  refine gw_istore_n C 2 dX2_stationsCounted_1 rfl [(0, .ref (ps_ad E k0)), (1, .int x1), (2, .int (0 : Int32))] [1, 2, 0] (by decide) rfl ?_
  refine gw_iconst C 3 dX2_stationsCounted_2 (v := 0) (by decide) rfl ?_
  refine gw_istore_n C 4 dX2_stationsCounted_3 rfl [(0, .ref (ps_ad E k0)), (1, .int x1), (2, .int (0 : Int32)), (3, .int (0 : Int32))] [1, 2, 3, 0] (by decide) rfl ?_
  exact bw_X2_stationsCounted_4 C RT M  ps_FU k0 x1 (0 : Int32) (0 : Int32) hk0 hk
theorem ct_X2_stationsCounted {E : ps_E} {l : Launch} (k0 : Nat) (x1 : Int32) (hk0 : ps_kd k0 = 2) (M : ps_M) (hk : ok_X2_stationsCounted k0 x1 M) : ps_CI (ps_Yc E) l yX2_stationsCounted cX2_stationsCounted 4 (some .int) 1 20 [.ref (ps_ad E k0), .int x1] M (fv_X2_stationsCounted k0 x1 M, M) := ps_metI RX2 (by decide) rfl (Nat.le_of_ble_eq_true rfl) rfl (fun X _ C RT => bw_X2_stationsCounted C RT M k0 x1 hk0 hk)
def fv_X2_hoursWorked_4 : Nat → Nat → Int32 → Int32 → ps_M → Int32
  | 0, _, _, _, M => 0
  | n + 1, k0, x1, x2, M => if (M k0 2) ≤ x2 then x1 else (fv_X2_hoursWorked_4 n k0 (x1 + (M ((k0 + 14) + 1 + (x2).toNatClampNeg) 4)) (x2 + (1 : Int32)) M)
theorem fv_X2_hoursWorked_4_s (n : Nat) (k0 : Nat) (x1 : Int32) (x2 : Int32) (M : ps_M) : fv_X2_hoursWorked_4 (n + 1) k0 x1 x2 M = (if (M k0 2) ≤ x2 then x1 else (fv_X2_hoursWorked_4 n k0 (x1 + (M ((k0 + 14) + 1 + (x2).toNatClampNeg) 4)) (x2 + (1 : Int32)) M)) := rfl
def ok_X2_hoursWorked_4 : Nat → Nat → Int32 → Int32 → ps_M → Prop
  | 0, _, _, _, _ => False
  | n + 1, k0, x1, x2, M => ((M k0 2) ≤ x2 → True) ∧ (¬ ((M k0 2) ≤ x2) → ((vp_in x2 12) ∧ (ok_X2_hoursWorked_4 n k0 (x1 + (M ((k0 + 14) + 1 + (x2).toNatClampNeg) 4)) (x2 + (1 : Int32)) M)))
theorem ok_X2_hoursWorked_4_s (n : Nat) (k0 : Nat) (x1 : Int32) (x2 : Int32) (M : ps_M) : ok_X2_hoursWorked_4 (n + 1) k0 x1 x2 M = (((M k0 2) ≤ x2 → True) ∧ (¬ ((M k0 2) ≤ x2) → ((vp_in x2 12) ∧ (ok_X2_hoursWorked_4 n k0 (x1 + (M ((k0 + 14) + 1 + (x2).toNatClampNeg) 4)) (x2 + (1 : Int32)) M)))) := rfl
set_option maxRecDepth 100000 in
set_option maxHeartbeats 4000000 in
theorem bw_X2_hoursWorked_4 {E : ps_E} {X : ps_X (Int32 × ps_M)} (C : ps_C (ps_Yc E) X cX2_hoursWorked RX2 (some .int) 0 0 3) (RT : ps_RI (ps_Yc E) X cX2_hoursWorked .int) (M : ps_M) : ∀ (n : Nat) (k0 : Nat) (x1 : Int32) (x2 : Int32) (hk0 : ps_kd k0 = 2), ok_X2_hoursWorked_4 n k0 x1 x2 M → ps_G (ps_Yc E) X (fv_X2_hoursWorked_4 n k0 x1 x2 M, M) 4 [(0, .ref (ps_ad E k0)), (1, .int x1), (2, .int x2)] [] M := by
  intro n
  induction n with
  | zero => intro k0 x1 x2 hk0 h; exact h.elim
  | succ n ih =>
    intro k0 x1 x2 hk0 hk
    rw [fv_X2_hoursWorked_4_s]
    rw [ok_X2_hoursWorked_4_s] at hk
    refine gw_iload_n C 5 dX2_hoursWorked_4 2 rfl rfl ?_
    refine gw_aload_n C 6 dX2_hoursWorked_5 0 rfl rfl ?_
    refine gf_X2_32 C 9 dX2_hoursWorked_6 rfl hk0 ?_
    refine gw_ic_geP C 30 12 dX2_hoursWorked_9 (by decide) rfl (fun c9 => ?_) (fun c9 => ?_)
    · refine gw_iload_n C 31 dX2_hoursWorked_30 1 rfl rfl ?_
      exact RT _ _ _ _ dX2_hoursWorked_31 rfl
    · refine gw_iload_n C 13 dX2_hoursWorked_12 1 rfl rfl ?_
      refine gw_aload_n C 14 dX2_hoursWorked_13 0 rfl rfl ?_
      refine gf_X2_20 C 17 dX2_hoursWorked_14 rfl hk0 ?_
      refine gw_iload_n C 18 dX2_hoursWorked_17 2 rfl rfl ?_
      refine gw_alK C 19 dX2_hoursWorked_18 rfl (kd_d14 hk0) (hk.2 c9).1 ?_
      refine gf_X2_102 C 22 dX2_hoursWorked_19 rfl (kd_K (kd_d14 hk0) (hk.2 c9).1) ?_
      refine gw_iadd C 23 dX2_hoursWorked_22 rfl ?_
      refine gw_istore_n C 24 dX2_hoursWorked_23 rfl [(0, .ref (ps_ad E k0)), (1, .int (x1 + (M ((k0 + 14) + 1 + (x2).toNatClampNeg) 4))), (2, .int x2)] [1, 0, 2] (by decide) rfl ?_
      refine gw_iinc C 27 dX2_hoursWorked_24 rfl (y := 1) (by decide) rfl 2 rfl [(0, .ref (ps_ad E k0)), (1, .int (x1 + (M ((k0 + 14) + 1 + (x2).toNatClampNeg) 4))), (2, .int (x2 + (1 : Int32)))] [1, 2, 0] (by decide) rfl ?_
      refine gw_goto C 4 dX2_hoursWorked_27 (by decide) ?_
      exact ih k0 (x1 + (M ((k0 + 14) + 1 + (x2).toNatClampNeg) 4)) (x2 + (1 : Int32)) hk0 (hk.2 c9).2
def fv_X2_hoursWorked (k0 : Nat) (M : ps_M) : Int32 := fv_X2_hoursWorked_4 ps_FU k0 (0 : Int32) (0 : Int32) M
def ok_X2_hoursWorked (k0 : Nat) (M : ps_M) : Prop := ok_X2_hoursWorked_4 ps_FU k0 (0 : Int32) (0 : Int32) M
set_option maxRecDepth 100000 in
set_option maxHeartbeats 4000000 in
theorem bw_X2_hoursWorked {E : ps_E} {X : ps_X (Int32 × ps_M)} (C : ps_C (ps_Yc E) X cX2_hoursWorked RX2 (some .int) 0 0 3) (RT : ps_RI (ps_Yc E) X cX2_hoursWorked .int) (M : ps_M) (k0 : Nat) (hk0 : ps_kd k0 = 2) (hk : ok_X2_hoursWorked k0 M) : ps_G (ps_Yc E) X (fv_X2_hoursWorked k0 M, M) 0 [(0, .ref (ps_ad E k0))] [] M := by
  unfold fv_X2_hoursWorked
  unfold ok_X2_hoursWorked at hk
  refine gw_iconst C 1 dX2_hoursWorked_0 (v := 0) (by decide) rfl ?_
  refine gw_istore_n C 2 dX2_hoursWorked_1 rfl [(0, .ref (ps_ad E k0)), (1, .int (0 : Int32))] [1, 0] (by decide) rfl ?_
  refine gw_iconst C 3 dX2_hoursWorked_2 (v := 0) (by decide) rfl ?_
  refine gw_istore_n C 4 dX2_hoursWorked_3 rfl [(0, .ref (ps_ad E k0)), (1, .int (0 : Int32)), (2, .int (0 : Int32))] [1, 2, 0] (by decide) rfl ?_
  exact bw_X2_hoursWorked_4 C RT M  ps_FU k0 (0 : Int32) (0 : Int32) hk0 hk
theorem ct_X2_hoursWorked {E : ps_E} {l : Launch} (k0 : Nat) (hk0 : ps_kd k0 = 2) (M : ps_M) (hk : ok_X2_hoursWorked k0 M) : ps_CI (ps_Yc E) l yX2_hoursWorked cX2_hoursWorked 3 (some .int) 0 0 [.ref (ps_ad E k0)] M (fv_X2_hoursWorked k0 M, M) := ps_metI RX2 (by decide) rfl (Nat.le_of_ble_eq_true rfl) rfl (fun X _ C RT => bw_X2_hoursWorked C RT M k0 hk0 hk)
