def fv_X6_in (x0 : Int32) (x1 : Int32) (x2 : Int32) (M : ps_M) : Int32 := if x0 < x1 then ((0 : Int32)) else (if x2 < x0 then ((0 : Int32)) else ((1 : Int32)))
def ok_X6_in (x0 : Int32) (x1 : Int32) (x2 : Int32) (M : ps_M) : Prop := True
set_option maxRecDepth 100000 in
set_option maxHeartbeats 4000000 in
theorem bw_X6_in {E : ps_E} {X : ps_X (Int32 × ps_M)} (C : ps_C (pm_Y E) X cX6_in RX6 (some .boolean) 0 0 3) (RT : ps_RI (pm_Y E) X cX6_in .boolean) (M : ps_M) (x0 : Int32) (x1 : Int32) (x2 : Int32) (hk : ok_X6_in x0 x1 x2 M) : ps_G (pm_Y E) X (fv_X6_in x0 x1 x2 M, M) 0 [(0, .int x0), (1, .int x1), (2, .int x2)] [] M := by
  unfold fv_X6_in
  unfold ok_X6_in at hk
  refine gw_iload_n C 1 dX6_in_0 0 rfl rfl ?_
  refine gw_iload_n C 2 dX6_in_1 1 rfl rfl ?_
  refine gw_ic_ltP C 14 5 dX6_in_2 (by decide) rfl (fun c2 => ?_) (fun c2 => ?_)
  · refine gw_iconst C 15 dX6_in_14 (v := 0) (by decide) rfl ?_
    exact RT _ _ _ _ dX6_in_15 ps_nb0
  · refine gw_iload_n C 6 dX6_in_5 0 rfl rfl ?_
    refine gw_iload_n C 7 dX6_in_6 2 rfl rfl ?_
    refine gw_ic_gtP C 14 10 dX6_in_7 (by decide) rfl (fun c7 => ?_) (fun c7 => ?_)
    · refine gw_iconst C 15 dX6_in_14 (v := 0) (by decide) rfl ?_
      exact RT _ _ _ _ dX6_in_15 ps_nb0
    · refine gw_iconst C 11 dX6_in_10 (v := 1) (by decide) rfl ?_
      refine gw_goto C 15 dX6_in_11 (by decide) ?_
      exact RT _ _ _ _ dX6_in_15 ps_nb1
theorem ct_X6_in {E : ps_E} {l : Launch} (x0 : Int32) (x1 : Int32) (x2 : Int32)  (M : ps_M) (hk : ok_X6_in x0 x1 x2 M) : ps_CI (pm_Y E) l yX6_in cX6_in 3 (some .boolean) 0 0 [.int x0, .int x1, .int x2] M (fv_X6_in x0 x1 x2 M, M) := ps_metI RX6 (by decide) rfl (Nat.le_of_ble_eq_true rfl) rfl (fun X _ C RT => bw_X6_in C RT M x0 x1 x2 hk)
def fv_X6_copies_3 : Nat → Nat → Int32 → Nat → Int32 → Int32 → ps_M → ps_M
  | 0, _, _, _, _, _, M => M
  | n + 1, k0, x1, k2, x3, x4, M => if (237 : Int32) ≤ x4 then M else (fv_X6_copies_3 n k0 x1 k2 x3 (x4 + (1 : Int32)) (ps_st M k2 ((x3 + x4)).toNatClampNeg (M k0 ((x1 + x4)).toNatClampNeg)))
theorem fv_X6_copies_3_s (n : Nat) (k0 : Nat) (x1 : Int32) (k2 : Nat) (x3 : Int32) (x4 : Int32) (M : ps_M) : fv_X6_copies_3 (n + 1) k0 x1 k2 x3 x4 M = (if (237 : Int32) ≤ x4 then M else (fv_X6_copies_3 n k0 x1 k2 x3 (x4 + (1 : Int32)) (ps_st M k2 ((x3 + x4)).toNatClampNeg (M k0 ((x1 + x4)).toNatClampNeg)))) := rfl
def ok_X6_copies_3 : Nat → Nat → Int32 → Nat → Int32 → Int32 → ps_M → Prop
  | 0, _, _, _, _, _, _ => False
  | n + 1, k0, x1, k2, x3, x4, M => ((237 : Int32) ≤ x4 → True) ∧ (¬ ((237 : Int32) ≤ x4) → ((vp_in (x1 + x4) (pm_ln k0)) ∧ ((vp_in (x3 + x4) (pm_ln k2)) ∧ (ok_X6_copies_3 n k0 x1 k2 x3 (x4 + (1 : Int32)) (ps_st M k2 ((x3 + x4)).toNatClampNeg (M k0 ((x1 + x4)).toNatClampNeg))))))
theorem ok_X6_copies_3_s (n : Nat) (k0 : Nat) (x1 : Int32) (k2 : Nat) (x3 : Int32) (x4 : Int32) (M : ps_M) : ok_X6_copies_3 (n + 1) k0 x1 k2 x3 x4 M = (((237 : Int32) ≤ x4 → True) ∧ (¬ ((237 : Int32) ≤ x4) → ((vp_in (x1 + x4) (pm_ln k0)) ∧ ((vp_in (x3 + x4) (pm_ln k2)) ∧ (ok_X6_copies_3 n k0 x1 k2 x3 (x4 + (1 : Int32)) (ps_st M k2 ((x3 + x4)).toNatClampNeg (M k0 ((x1 + x4)).toNatClampNeg))))))) := rfl
set_option maxRecDepth 100000 in
set_option maxHeartbeats 4000000 in
theorem bw_X6_copies_3 {E : ps_E} {X : ps_X ps_M} (C : ps_C (pm_Y E) X cX6_copies RX6 none 0 0 5) (RT : ps_RV (pm_Y E) X cX6_copies) : ∀ (n : Nat) (k0 : Nat) (x1 : Int32) (k2 : Nat) (x3 : Int32) (x4 : Int32) (hk0 : 1 ≤ k0 ∧ k0 < 7) (hk2 : 1 ≤ k2 ∧ k2 < 7) (M : ps_M), ok_X6_copies_3 n k0 x1 k2 x3 x4 M → ps_G (pm_Y E) X (fv_X6_copies_3 n k0 x1 k2 x3 x4 M) 3 [(0, .ref (ps_ad E k0)), (1, .int x1), (2, .ref (ps_ad E k2)), (3, .int x3), (4, .int x4)] [] M := by
  intro n
  induction n with
  | zero => intro k0 x1 k2 x3 x4 hk0 hk2 M h; exact h.elim
  | succ n ih =>
    intro k0 x1 k2 x3 x4 hk0 hk2 M hk
    rw [fv_X6_copies_3_s]
    rw [ok_X6_copies_3_s] at hk
    refine gw_iload C 5 dX6_copies_3 4 rfl rfl ?_
    refine gw_sipush C 8 dX6_copies_5 (v := 237) (by decide) rfl ?_
    refine gw_ic_ge C 29 11 dX6_copies_8 (by decide) rfl (fun c8 => ?_) (fun c8 => ?_)
    · exact RT _ _ _ dX6_copies_29
    · refine gw_aload_n C 12 dX6_copies_11 2 rfl rfl ?_
      refine gw_iload_n C 13 dX6_copies_12 3 rfl rfl ?_
      refine gw_iload C 15 dX6_copies_13 4 rfl rfl ?_
      refine gw_iadd C 16 dX6_copies_15 rfl ?_
      refine gw_aload_n C 17 dX6_copies_16 0 rfl rfl ?_
      refine gw_iload_n C 18 dX6_copies_17 1 rfl rfl ?_
      refine gw_iload C 20 dX6_copies_18 4 rfl rfl ?_
      refine gw_iadd C 21 dX6_copies_20 rfl ?_
      refine gm_ld C 22 dX6_copies_21 rfl hk0 (hk.2 c8).1 ?_
      refine gm_sv C 23 dX6_copies_22 rfl hk2 (hk.2 c8).2.1 ?_
      refine gw_iinc C 26 dX6_copies_23 rfl (y := 1) (by decide) rfl 4 rfl [(0, .ref (ps_ad E k0)), (1, .int x1), (2, .ref (ps_ad E k2)), (3, .int x3), (4, .int (x4 + (1 : Int32)))] [1, 2, 3, 4, 0] (by decide) rfl ?_
      refine gw_goto C 3 dX6_copies_26 (by decide) ?_
      exact ih k0 x1 k2 x3 (x4 + (1 : Int32)) hk0 hk2 (ps_st M k2 ((x3 + x4)).toNatClampNeg (M k0 ((x1 + x4)).toNatClampNeg)) (hk.2 c8).2.2
def fv_X6_copies (k0 : Nat) (x1 : Int32) (k2 : Nat) (x3 : Int32) (M : ps_M) : ps_M := fv_X6_copies_3 ps_FU k0 x1 k2 x3 (0 : Int32) M
def ok_X6_copies (k0 : Nat) (x1 : Int32) (k2 : Nat) (x3 : Int32) (M : ps_M) : Prop := ok_X6_copies_3 ps_FU k0 x1 k2 x3 (0 : Int32) M
set_option maxRecDepth 100000 in
set_option maxHeartbeats 4000000 in
theorem bw_X6_copies {E : ps_E} {X : ps_X ps_M} (C : ps_C (pm_Y E) X cX6_copies RX6 none 0 0 5) (RT : ps_RV (pm_Y E) X cX6_copies) (k0 : Nat) (x1 : Int32) (k2 : Nat) (x3 : Int32) (hk0 : 1 ≤ k0 ∧ k0 < 7) (hk2 : 1 ≤ k2 ∧ k2 < 7) (M : ps_M) (hk : ok_X6_copies k0 x1 k2 x3 M) : ps_G (pm_Y E) X (fv_X6_copies k0 x1 k2 x3 M) 0 [(0, .ref (ps_ad E k0)), (1, .int x1), (2, .ref (ps_ad E k2)), (3, .int x3)] [] M := by
  unfold fv_X6_copies
  unfold ok_X6_copies at hk
  refine gw_iconst C 1 dX6_copies_0 (v := 0) (by decide) rfl ?_
  refine gw_istore C 3 dX6_copies_1 rfl [(0, .ref (ps_ad E k0)), (1, .int x1), (2, .ref (ps_ad E k2)), (3, .int x3), (4, .int (0 : Int32))] [1, 2, 3, 4, 0] (by decide) rfl ?_
  exact bw_X6_copies_3 C RT  ps_FU k0 x1 k2 x3 (0 : Int32) hk0 hk2 M hk
theorem ct_X6_copies {E : ps_E} {l : Launch} (k0 : Nat) (x1 : Int32) (k2 : Nat) (x3 : Int32) (hk0 : 1 ≤ k0 ∧ k0 < 7) (hk2 : 1 ≤ k2 ∧ k2 < 7) (M : ps_M) (hk : ok_X6_copies k0 x1 k2 x3 M) : ps_CV (pm_Y E) l yX6_copies cX6_copies 5 0 0 [.ref (ps_ad E k0), .int x1, .ref (ps_ad E k2), .int x3] M (fv_X6_copies k0 x1 k2 x3 M) := ps_metV RX6 (by decide) rfl (Nat.le_of_ble_eq_true rfl) rfl (fun X _ C RT => bw_X6_copies C RT k0 x1 k2 x3 hk0 hk2 M hk)
def fv_X6_records_44  (M : ps_M) : ps_M := (ps_st (fv_X6_copies 1 (0 : Int32) 2 ((M 0 2) * (237 : Int32)) M) 0 2 (((fv_X6_copies 1 (0 : Int32) 2 ((M 0 2) * (237 : Int32)) M) 0 2) + (1 : Int32)))
def ok_X6_records_44  (M : ps_M) : Prop := (ok_X6_copies 1 (0 : Int32) 2 ((M 0 2) * (237 : Int32)) M) ∧ True
set_option maxRecDepth 100000 in
set_option maxHeartbeats 4000000 in
theorem bw_X6_records_44 {E : ps_E} {X : ps_X ps_M} (C : ps_C (pm_Y E) X cX6_records RX6 none 1 24 2) (RT : ps_RV (pm_Y E) X cX6_records)  (M : ps_M) (hk : ok_X6_records_44  M) : ps_G (pm_Y E) X (fv_X6_records_44  M) 44 [(0, .ref (ps_ad E 0))] [] M := by
  unfold fv_X6_records_44
  unfold ok_X6_records_44 at hk
  refine gw_aload_n C 45 dX6_records_44 0 rfl rfl ?_
  refine gf_X6_7 C 48 dX6_records_45 rfl ?_
  refine gw_iconst C 49 dX6_records_48 (v := 0) (by decide) rfl ?_
  refine gw_aload_n C 50 dX6_records_49 0 rfl rfl ?_
  refine gf_X6_13 C 53 dX6_records_50 rfl ?_
  refine gw_aload_n C 54 dX6_records_53 0 rfl rfl ?_
  refine gf_X6_28 C 57 dX6_records_54 rfl ?_
  refine gw_sipush C 60 dX6_records_57 (v := 237) (by decide) rfl ?_
  refine gw_imul C 61 dX6_records_60 rfl ?_
  refine gw_cSv C 64 dX6_records_61 rfl yv_X6_copies lk_X6_32 [.ref (ps_ad E 1), .int (0 : Int32), .ref (ps_ad E 2), .int ((M 0 2) * (237 : Int32))] [] rfl (ct_X6_copies (E := E) (l := ps_l X) 1 (0 : Int32) 2 ((M 0 2) * (237 : Int32)) (by decide) (by decide) M hk.1) rfl (Nat.le_of_ble_eq_true rfl) (Nat.le_of_ble_eq_true rfl) (Nat.le_of_ble_eq_true rfl) ?_
  refine gw_aload_n C 65 dX6_records_64 0 rfl rfl ?_
  refine gw_dup C 66 dX6_records_65 rfl rfl ?_
  refine gf_X6_28 C 69 dX6_records_66 rfl ?_
  refine gw_iconst C 70 dX6_records_69 (v := 1) (by decide) rfl ?_
  refine gw_iadd C 71 dX6_records_70 rfl ?_
  refine pf_X6_28 C 74 dX6_records_71 rfl ?_
  exact RT _ _ _ dX6_records_74
def fv_X6_records_10 : Nat → Int32 → ps_M → ps_M
  | 0, _, M => M
  | n + 1, x1, M => if (711 : Int32) ≤ x1 then (fv_X6_records_44  (ps_st M 0 2 (3 : Int32))) else (fv_X6_records_10 n (x1 + (1 : Int32)) (ps_st M 2 (x1).toNatClampNeg (M 2 ((x1 + (237 : Int32))).toNatClampNeg)))
theorem fv_X6_records_10_s (n : Nat) (x1 : Int32) (M : ps_M) : fv_X6_records_10 (n + 1) x1 M = (if (711 : Int32) ≤ x1 then (fv_X6_records_44  (ps_st M 0 2 (3 : Int32))) else (fv_X6_records_10 n (x1 + (1 : Int32)) (ps_st M 2 (x1).toNatClampNeg (M 2 ((x1 + (237 : Int32))).toNatClampNeg)))) := rfl
def ok_X6_records_10 : Nat → Int32 → ps_M → Prop
  | 0, _, _ => False
  | n + 1, x1, M => ((711 : Int32) ≤ x1 → (ok_X6_records_44  (ps_st M 0 2 (3 : Int32)))) ∧ (¬ ((711 : Int32) ≤ x1) → ((vp_in (x1 + (237 : Int32)) 948) ∧ ((vp_in x1 948) ∧ (ok_X6_records_10 n (x1 + (1 : Int32)) (ps_st M 2 (x1).toNatClampNeg (M 2 ((x1 + (237 : Int32))).toNatClampNeg))))))
theorem ok_X6_records_10_s (n : Nat) (x1 : Int32) (M : ps_M) : ok_X6_records_10 (n + 1) x1 M = (((711 : Int32) ≤ x1 → (ok_X6_records_44  (ps_st M 0 2 (3 : Int32)))) ∧ (¬ ((711 : Int32) ≤ x1) → ((vp_in (x1 + (237 : Int32)) 948) ∧ ((vp_in x1 948) ∧ (ok_X6_records_10 n (x1 + (1 : Int32)) (ps_st M 2 (x1).toNatClampNeg (M 2 ((x1 + (237 : Int32))).toNatClampNeg))))))) := rfl
set_option maxRecDepth 100000 in
set_option maxHeartbeats 4000000 in
theorem bw_X6_records_10 {E : ps_E} {X : ps_X ps_M} (C : ps_C (pm_Y E) X cX6_records RX6 none 1 24 2) (RT : ps_RV (pm_Y E) X cX6_records) : ∀ (n : Nat) (x1 : Int32) (M : ps_M), ok_X6_records_10 n x1 M → ps_G (pm_Y E) X (fv_X6_records_10 n x1 M) 10 [(0, .ref (ps_ad E 0)), (1, .int x1)] [] M := by
  intro n
  induction n with
  | zero => intro x1 M h; exact h.elim
  | succ n ih =>
    intro x1 M hk
    rw [fv_X6_records_10_s]
    rw [ok_X6_records_10_s] at hk
    refine gw_iload_n C 11 dX6_records_10 1 rfl rfl ?_
    refine gw_sipush C 14 dX6_records_11 (v := 711) (by decide) rfl ?_
    refine gw_ic_ge C 39 17 dX6_records_14 (by decide) rfl (fun c14 => ?_) (fun c14 => ?_)
    · refine gw_aload_n C 40 dX6_records_39 0 rfl rfl ?_
      refine gw_iconst C 41 dX6_records_40 (v := 3) (by decide) rfl ?_
      refine pf_X6_28 C 44 dX6_records_41 rfl ?_
      refine gw_sub C [(0, .ref (ps_ad E 0))] [0] rfl ?_
      exact bw_X6_records_44 C RT  (ps_st M 0 2 (3 : Int32)) (hk.1 c14)
    · refine gw_aload_n C 18 dX6_records_17 0 rfl rfl ?_
      refine gf_X6_13 C 21 dX6_records_18 rfl ?_
      refine gw_iload_n C 22 dX6_records_21 1 rfl rfl ?_
      refine gw_aload_n C 23 dX6_records_22 0 rfl rfl ?_
      refine gf_X6_13 C 26 dX6_records_23 rfl ?_
      refine gw_iload_n C 27 dX6_records_26 1 rfl rfl ?_
      refine gw_sipush C 30 dX6_records_27 (v := 237) (by decide) rfl ?_
      refine gw_iadd C 31 dX6_records_30 rfl ?_
      refine gm_ld C 32 dX6_records_31 rfl (by decide) (hk.2 c14).1 ?_
      refine gm_sv C 33 dX6_records_32 rfl (by decide) (hk.2 c14).2.1 ?_
      refine gw_iinc C 36 dX6_records_33 rfl (y := 1) (by decide) rfl 1 rfl [(0, .ref (ps_ad E 0)), (1, .int (x1 + (1 : Int32)))] [1, 0] (by decide) rfl ?_
      refine gw_goto C 10 dX6_records_36 (by decide) ?_
      exact ih (x1 + (1 : Int32)) (ps_st M 2 (x1).toNatClampNeg (M 2 ((x1 + (237 : Int32))).toNatClampNeg)) (hk.2 c14).2.2
def fv_X6_records  (M : ps_M) : ps_M := if (M 0 2) = (4 : Int32) then (fv_X6_records_10 ps_FU (0 : Int32) M) else (fv_X6_records_44  M)
def ok_X6_records  (M : ps_M) : Prop := ((M 0 2) = (4 : Int32) → (ok_X6_records_10 ps_FU (0 : Int32) M)) ∧ (¬ ((M 0 2) = (4 : Int32)) → (ok_X6_records_44  M))
set_option maxRecDepth 100000 in
set_option maxHeartbeats 4000000 in
theorem bw_X6_records {E : ps_E} {X : ps_X ps_M} (C : ps_C (pm_Y E) X cX6_records RX6 none 1 24 2) (RT : ps_RV (pm_Y E) X cX6_records)  (M : ps_M) (hk : ok_X6_records  M) : ps_G (pm_Y E) X (fv_X6_records  M) 0 [(0, .ref (ps_ad E 0))] [] M := by
  unfold fv_X6_records
  unfold ok_X6_records at hk
  refine gw_aload_n C 1 dX6_records_0 0 rfl rfl ?_
  refine gf_X6_28 C 4 dX6_records_1 rfl ?_
  refine gw_iconst C 5 dX6_records_4 (v := 4) (by decide) rfl ?_
  refine gw_ic_ne C 44 8 dX6_records_5 (by decide) rfl (fun c5 => ?_) (fun c5 => ?_)
  · refine gw_iconst C 9 dX6_records_8 (v := 0) (by decide) rfl ?_
    refine gw_istore_n C 10 dX6_records_9 rfl [(0, .ref (ps_ad E 0)), (1, .int (0 : Int32))] [1, 0] (by decide) rfl ?_
    exact bw_X6_records_10 C RT  ps_FU (0 : Int32) M (hk.1 c5)
  · exact bw_X6_records_44 C RT  M (hk.2 c5)
theorem ct_X6_records {E : ps_E} {l : Launch}   (M : ps_M) (hk : ok_X6_records  M) : ps_CV (pm_Y E) l yX6_records cX6_records 2 1 24 [.ref (ps_ad E 0)] M (fv_X6_records  M) := ps_metV RX6 (by decide) rfl (Nat.le_of_ble_eq_true rfl) rfl (fun X _ C RT => bw_X6_records C RT M hk)
def fv_X6_isStation (x1 : Int32) (M : ps_M) : Int32 := (fv_X6_in x1 (0 : Int32) ((M 1 ((1 : Int32)).toNatClampNeg) - (1 : Int32)) M)
def ok_X6_isStation (x1 : Int32) (M : ps_M) : Prop := (vp_in (1 : Int32) 237) ∧ ((ok_X6_in x1 (0 : Int32) ((M 1 ((1 : Int32)).toNatClampNeg) - (1 : Int32)) M) ∧ (((fv_X6_in x1 (0 : Int32) ((M 1 ((1 : Int32)).toNatClampNeg) - (1 : Int32)) M) = 0 ∨ (fv_X6_in x1 (0 : Int32) ((M 1 ((1 : Int32)).toNatClampNeg) - (1 : Int32)) M) = 1) ∧ True))
set_option maxRecDepth 100000 in
set_option maxHeartbeats 4000000 in
theorem bw_X6_isStation {E : ps_E} {X : ps_X (Int32 × ps_M)} (C : ps_C (pm_Y E) X cX6_isStation RX6 (some .boolean) 1 22 2) (RT : ps_RI (pm_Y E) X cX6_isStation .boolean) (M : ps_M) (x1 : Int32) (hk : ok_X6_isStation x1 M) : ps_G (pm_Y E) X (fv_X6_isStation x1 M, M) 0 [(0, .ref (ps_ad E 0)), (1, .int x1)] [] M := by
  unfold fv_X6_isStation
  unfold ok_X6_isStation at hk
  refine gw_iload_n C 1 dX6_isStation_0 1 rfl rfl ?_
  refine gw_iconst C 2 dX6_isStation_1 (v := 0) (by decide) rfl ?_
  refine gw_aload_n C 3 dX6_isStation_2 0 rfl rfl ?_
  refine gf_X6_7 C 6 dX6_isStation_3 rfl ?_
  refine gw_iconst C 7 dX6_isStation_6 (v := 1) (by decide) rfl ?_
  refine gm_ld C 8 dX6_isStation_7 rfl (by decide) hk.1 ?_
  refine gw_iconst C 9 dX6_isStation_8 (v := 1) (by decide) rfl ?_
  refine gw_isub C 10 dX6_isStation_9 rfl ?_
  refine gw_cSp C 13 dX6_isStation_10 rfl yv_X6_in lk_X6_36 [.int x1, .int (0 : Int32), .int ((M 1 ((1 : Int32)).toNatClampNeg) - (1 : Int32))] [] rfl (ct_X6_in (E := E) (l := ps_l X) x1 (0 : Int32) ((M 1 ((1 : Int32)).toNatClampNeg) - (1 : Int32)) M hk.2.1) rfl (Nat.le_of_ble_eq_true rfl) (Nat.le_of_ble_eq_true rfl) (Nat.le_of_ble_eq_true rfl) ?_
  exact RT _ _ _ _ dX6_isStation_13 (ps_nb hk.2.2.1)
theorem ct_X6_isStation {E : ps_E} {l : Launch} (x1 : Int32)  (M : ps_M) (hk : ok_X6_isStation x1 M) : ps_CI (pm_Y E) l yX6_isStation cX6_isStation 2 (some .boolean) 1 22 [.ref (ps_ad E 0), .int x1] M (fv_X6_isStation x1 M, M) := ps_metI RX6 (by decide) rfl (Nat.le_of_ble_eq_true rfl) rfl (fun X _ C RT => bw_X6_isStation C RT M x1 hk)
def fv_X6_isClerk (x1 : Int32) (M : ps_M) : Int32 := (fv_X6_in x1 (0 : Int32) ((M 1 ((2 : Int32)).toNatClampNeg) - (1 : Int32)) M)
def ok_X6_isClerk (x1 : Int32) (M : ps_M) : Prop := (vp_in (2 : Int32) 237) ∧ ((ok_X6_in x1 (0 : Int32) ((M 1 ((2 : Int32)).toNatClampNeg) - (1 : Int32)) M) ∧ (((fv_X6_in x1 (0 : Int32) ((M 1 ((2 : Int32)).toNatClampNeg) - (1 : Int32)) M) = 0 ∨ (fv_X6_in x1 (0 : Int32) ((M 1 ((2 : Int32)).toNatClampNeg) - (1 : Int32)) M) = 1) ∧ True))
set_option maxRecDepth 100000 in
set_option maxHeartbeats 4000000 in
theorem bw_X6_isClerk {E : ps_E} {X : ps_X (Int32 × ps_M)} (C : ps_C (pm_Y E) X cX6_isClerk RX6 (some .boolean) 1 22 2) (RT : ps_RI (pm_Y E) X cX6_isClerk .boolean) (M : ps_M) (x1 : Int32) (hk : ok_X6_isClerk x1 M) : ps_G (pm_Y E) X (fv_X6_isClerk x1 M, M) 0 [(0, .ref (ps_ad E 0)), (1, .int x1)] [] M := by
  unfold fv_X6_isClerk
  unfold ok_X6_isClerk at hk
  refine gw_iload_n C 1 dX6_isClerk_0 1 rfl rfl ?_
  refine gw_iconst C 2 dX6_isClerk_1 (v := 0) (by decide) rfl ?_
  refine gw_aload_n C 3 dX6_isClerk_2 0 rfl rfl ?_
  refine gf_X6_7 C 6 dX6_isClerk_3 rfl ?_
  refine gw_iconst C 7 dX6_isClerk_6 (v := 2) (by decide) rfl ?_
  refine gm_ld C 8 dX6_isClerk_7 rfl (by decide) hk.1 ?_
  refine gw_iconst C 9 dX6_isClerk_8 (v := 1) (by decide) rfl ?_
  refine gw_isub C 10 dX6_isClerk_9 rfl ?_
  refine gw_cSp C 13 dX6_isClerk_10 rfl yv_X6_in lk_X6_36 [.int x1, .int (0 : Int32), .int ((M 1 ((2 : Int32)).toNatClampNeg) - (1 : Int32))] [] rfl (ct_X6_in (E := E) (l := ps_l X) x1 (0 : Int32) ((M 1 ((2 : Int32)).toNatClampNeg) - (1 : Int32)) M hk.2.1) rfl (Nat.le_of_ble_eq_true rfl) (Nat.le_of_ble_eq_true rfl) (Nat.le_of_ble_eq_true rfl) ?_
  exact RT _ _ _ _ dX6_isClerk_13 (ps_nb hk.2.2.1)
theorem ct_X6_isClerk {E : ps_E} {l : Launch} (x1 : Int32)  (M : ps_M) (hk : ok_X6_isClerk x1 M) : ps_CI (pm_Y E) l yX6_isClerk cX6_isClerk 2 (some .boolean) 1 22 [.ref (ps_ad E 0), .int x1] M (fv_X6_isClerk x1 M, M) := ps_metI RX6 (by decide) rfl (Nat.le_of_ble_eq_true rfl) rfl (fun X _ C RT => bw_X6_isClerk C RT M x1 hk)
def fv_X6_of (x1 : Int32) (x2 : Int32) (M : ps_M) : Int32 := (M 1 ((((3 : Int32) + ((27 : Int32) * x1)) + x2)).toNatClampNeg)
def ok_X6_of (x1 : Int32) (x2 : Int32) (M : ps_M) : Prop := (vp_in (((3 : Int32) + ((27 : Int32) * x1)) + x2) 237) ∧ True
set_option maxRecDepth 100000 in
set_option maxHeartbeats 4000000 in
theorem bw_X6_of {E : ps_E} {X : ps_X (Int32 × ps_M)} (C : ps_C (pm_Y E) X cX6_of RX6 (some .int) 0 0 3) (RT : ps_RI (pm_Y E) X cX6_of .int) (M : ps_M) (x1 : Int32) (x2 : Int32) (hk : ok_X6_of x1 x2 M) : ps_G (pm_Y E) X (fv_X6_of x1 x2 M, M) 0 [(0, .ref (ps_ad E 0)), (1, .int x1), (2, .int x2)] [] M := by
  unfold fv_X6_of
  unfold ok_X6_of at hk
  refine gw_aload_n C 1 dX6_of_0 0 rfl rfl ?_
  refine gf_X6_7 C 4 dX6_of_1 rfl ?_
  refine gw_iconst C 5 dX6_of_4 (v := 3) (by decide) rfl ?_
  refine gw_bipush C 7 dX6_of_5 (v := 27) (by decide) rfl ?_
  refine gw_iload_n C 8 dX6_of_7 1 rfl rfl ?_
  refine gw_imul C 9 dX6_of_8 rfl ?_
  refine gw_iadd C 10 dX6_of_9 rfl ?_
  refine gw_iload_n C 11 dX6_of_10 2 rfl rfl ?_
  refine gw_iadd C 12 dX6_of_11 rfl ?_
  refine gm_ld C 13 dX6_of_12 rfl (by decide) hk.1 ?_
  exact RT _ _ _ _ dX6_of_13 rfl
theorem ct_X6_of {E : ps_E} {l : Launch} (x1 : Int32) (x2 : Int32)  (M : ps_M) (hk : ok_X6_of x1 x2 M) : ps_CI (pm_Y E) l yX6_of cX6_of 3 (some .int) 0 0 [.ref (ps_ad E 0), .int x1, .int x2] M (fv_X6_of x1 x2 M, M) := ps_metI RX6 (by decide) rfl (Nat.le_of_ble_eq_true rfl) rfl (fun X _ C RT => bw_X6_of C RT M x1 x2 hk)
def fv_X6_adds (x1 : Int32) (x2 : Int32) (x3 : Int32) (M : ps_M) : ps_M := (ps_st M 1 ((((3 : Int32) + ((27 : Int32) * x1)) + x2)).toNatClampNeg ((M 1 ((((3 : Int32) + ((27 : Int32) * x1)) + x2)).toNatClampNeg) + x3))
def ok_X6_adds (x1 : Int32) (x2 : Int32) (x3 : Int32) (M : ps_M) : Prop := (vp_in (((3 : Int32) + ((27 : Int32) * x1)) + x2) 237) ∧ ((vp_in (((3 : Int32) + ((27 : Int32) * x1)) + x2) 237) ∧ True)
set_option maxRecDepth 100000 in
set_option maxHeartbeats 4000000 in
theorem bw_X6_adds {E : ps_E} {X : ps_X ps_M} (C : ps_C (pm_Y E) X cX6_adds RX6 none 0 0 4) (RT : ps_RV (pm_Y E) X cX6_adds) (x1 : Int32) (x2 : Int32) (x3 : Int32) (M : ps_M) (hk : ok_X6_adds x1 x2 x3 M) : ps_G (pm_Y E) X (fv_X6_adds x1 x2 x3 M) 0 [(0, .ref (ps_ad E 0)), (1, .int x1), (2, .int x2), (3, .int x3)] [] M := by
  unfold fv_X6_adds
  unfold ok_X6_adds at hk
  refine gw_aload_n C 1 dX6_adds_0 0 rfl rfl ?_
  refine gf_X6_7 C 4 dX6_adds_1 rfl ?_
  refine gw_iconst C 5 dX6_adds_4 (v := 3) (by decide) rfl ?_
  refine gw_bipush C 7 dX6_adds_5 (v := 27) (by decide) rfl ?_
  refine gw_iload_n C 8 dX6_adds_7 1 rfl rfl ?_
  refine gw_imul C 9 dX6_adds_8 rfl ?_
  refine gw_iadd C 10 dX6_adds_9 rfl ?_
  refine gw_iload_n C 11 dX6_adds_10 2 rfl rfl ?_
  refine gw_iadd C 12 dX6_adds_11 rfl ?_
  refine gw_dup2 C 13 dX6_adds_12 rfl rfl rfl ?_
  refine gm_ld C 14 dX6_adds_13 rfl (by decide) hk.1 ?_
  refine gw_iload_n C 15 dX6_adds_14 3 rfl rfl ?_
  refine gw_iadd C 16 dX6_adds_15 rfl ?_
  refine gm_sv C 17 dX6_adds_16 rfl (by decide) hk.2.1 ?_
  exact RT _ _ _ dX6_adds_17
theorem ct_X6_adds {E : ps_E} {l : Launch} (x1 : Int32) (x2 : Int32) (x3 : Int32)  (M : ps_M) (hk : ok_X6_adds x1 x2 x3 M) : ps_CV (pm_Y E) l yX6_adds cX6_adds 4 0 0 [.ref (ps_ad E 0), .int x1, .int x2, .int x3] M (fv_X6_adds x1 x2 x3 M) := ps_metV RX6 (by decide) rfl (Nat.le_of_ble_eq_true rfl) rfl (fun X _ C RT => bw_X6_adds C RT x1 x2 x3 M hk)
def fv_X6_ofClerk (x1 : Int32) (x2 : Int32) (M : ps_M) : Int32 := (M 1 ((((165 : Int32) + ((6 : Int32) * x1)) + x2)).toNatClampNeg)
def ok_X6_ofClerk (x1 : Int32) (x2 : Int32) (M : ps_M) : Prop := (vp_in (((165 : Int32) + ((6 : Int32) * x1)) + x2) 237) ∧ True
set_option maxRecDepth 100000 in
set_option maxHeartbeats 4000000 in
theorem bw_X6_ofClerk {E : ps_E} {X : ps_X (Int32 × ps_M)} (C : ps_C (pm_Y E) X cX6_ofClerk RX6 (some .int) 0 0 3) (RT : ps_RI (pm_Y E) X cX6_ofClerk .int) (M : ps_M) (x1 : Int32) (x2 : Int32) (hk : ok_X6_ofClerk x1 x2 M) : ps_G (pm_Y E) X (fv_X6_ofClerk x1 x2 M, M) 0 [(0, .ref (ps_ad E 0)), (1, .int x1), (2, .int x2)] [] M := by
  unfold fv_X6_ofClerk
  unfold ok_X6_ofClerk at hk
  refine gw_aload_n C 1 dX6_ofClerk_0 0 rfl rfl ?_
  refine gf_X6_7 C 4 dX6_ofClerk_1 rfl ?_
  refine gw_sipush C 7 dX6_ofClerk_4 (v := 165) (by decide) rfl ?_
  refine gw_bipush C 9 dX6_ofClerk_7 (v := 6) (by decide) rfl ?_
  refine gw_iload_n C 10 dX6_ofClerk_9 1 rfl rfl ?_
  refine gw_imul C 11 dX6_ofClerk_10 rfl ?_
  refine gw_iadd C 12 dX6_ofClerk_11 rfl ?_
  refine gw_iload_n C 13 dX6_ofClerk_12 2 rfl rfl ?_
  refine gw_iadd C 14 dX6_ofClerk_13 rfl ?_
  refine gm_ld C 15 dX6_ofClerk_14 rfl (by decide) hk.1 ?_
  exact RT _ _ _ _ dX6_ofClerk_15 rfl
theorem ct_X6_ofClerk {E : ps_E} {l : Launch} (x1 : Int32) (x2 : Int32)  (M : ps_M) (hk : ok_X6_ofClerk x1 x2 M) : ps_CI (pm_Y E) l yX6_ofClerk cX6_ofClerk 3 (some .int) 0 0 [.ref (ps_ad E 0), .int x1, .int x2] M (fv_X6_ofClerk x1 x2 M, M) := ps_metI RX6 (by decide) rfl (Nat.le_of_ble_eq_true rfl) rfl (fun X _ C RT => bw_X6_ofClerk C RT M x1 x2 hk)
def fv_X6_laysClerk (x1 : Int32) (x2 : Int32) (x3 : Int32) (M : ps_M) : ps_M := (ps_st M 1 ((((165 : Int32) + ((6 : Int32) * x1)) + x2)).toNatClampNeg x3)
def ok_X6_laysClerk (x1 : Int32) (x2 : Int32) (x3 : Int32) (M : ps_M) : Prop := (vp_in (((165 : Int32) + ((6 : Int32) * x1)) + x2) 237) ∧ True
set_option maxRecDepth 100000 in
set_option maxHeartbeats 4000000 in
theorem bw_X6_laysClerk {E : ps_E} {X : ps_X ps_M} (C : ps_C (pm_Y E) X cX6_laysClerk RX6 none 0 0 4) (RT : ps_RV (pm_Y E) X cX6_laysClerk) (x1 : Int32) (x2 : Int32) (x3 : Int32) (M : ps_M) (hk : ok_X6_laysClerk x1 x2 x3 M) : ps_G (pm_Y E) X (fv_X6_laysClerk x1 x2 x3 M) 0 [(0, .ref (ps_ad E 0)), (1, .int x1), (2, .int x2), (3, .int x3)] [] M := by
  unfold fv_X6_laysClerk
  unfold ok_X6_laysClerk at hk
  refine gw_aload_n C 1 dX6_laysClerk_0 0 rfl rfl ?_
  refine gf_X6_7 C 4 dX6_laysClerk_1 rfl ?_
  refine gw_sipush C 7 dX6_laysClerk_4 (v := 165) (by decide) rfl ?_
  refine gw_bipush C 9 dX6_laysClerk_7 (v := 6) (by decide) rfl ?_
  refine gw_iload_n C 10 dX6_laysClerk_9 1 rfl rfl ?_
  refine gw_imul C 11 dX6_laysClerk_10 rfl ?_
  refine gw_iadd C 12 dX6_laysClerk_11 rfl ?_
  refine gw_iload_n C 13 dX6_laysClerk_12 2 rfl rfl ?_
  refine gw_iadd C 14 dX6_laysClerk_13 rfl ?_
  refine gw_iload_n C 15 dX6_laysClerk_14 3 rfl rfl ?_
  refine gm_sv C 16 dX6_laysClerk_15 rfl (by decide) hk.1 ?_
  exact RT _ _ _ dX6_laysClerk_16
theorem ct_X6_laysClerk {E : ps_E} {l : Launch} (x1 : Int32) (x2 : Int32) (x3 : Int32)  (M : ps_M) (hk : ok_X6_laysClerk x1 x2 x3 M) : ps_CV (pm_Y E) l yX6_laysClerk cX6_laysClerk 4 0 0 [.ref (ps_ad E 0), .int x1, .int x2, .int x3] M (fv_X6_laysClerk x1 x2 x3 M) := ps_metV RX6 (by decide) rfl (Nat.le_of_ble_eq_true rfl) rfl (fun X _ C RT => bw_X6_laysClerk C RT x1 x2 x3 M hk)
def fv_X6_addStation_41  (M : ps_M) : Int32 × ps_M := (((M 1 ((1 : Int32)).toNatClampNeg) - (1 : Int32)), M)
def ok_X6_addStation_41  (M : ps_M) : Prop := (vp_in (1 : Int32) 237) ∧ True
set_option maxRecDepth 100000 in
set_option maxHeartbeats 4000000 in
theorem bw_X6_addStation_41 {E : ps_E} {X : ps_X (Int32 × ps_M)} (C : ps_C (pm_Y E) X cX6_addStation RX6 (some .int) 2 45 1) (RT : ps_RI (pm_Y E) X cX6_addStation .int)  (M : ps_M) (hk : ok_X6_addStation_41  M) : ps_G (pm_Y E) X (fv_X6_addStation_41  M) 41 [(0, .ref (ps_ad E 0))] [] M := by
  unfold fv_X6_addStation_41
  unfold ok_X6_addStation_41 at hk
  refine gw_aload_n C 42 dX6_addStation_41 0 rfl rfl ?_
  refine gf_X6_7 C 45 dX6_addStation_42 rfl ?_
  refine gw_iconst C 46 dX6_addStation_45 (v := 1) (by decide) rfl ?_
  refine gm_ld C 47 dX6_addStation_46 rfl (by decide) hk.1 ?_
  refine gw_iconst C 48 dX6_addStation_47 (v := 1) (by decide) rfl ?_
  refine gw_isub C 49 dX6_addStation_48 rfl ?_
  exact RT _ _ _ _ dX6_addStation_49 rfl
def fv_X6_addStation  (M : ps_M) : Int32 × ps_M := if (M 1 ((1 : Int32)).toNatClampNeg) = (6 : Int32) then (((-3 : Int32), M)) else (fv_X6_addStation_41  (ps_st (fv_X6_adds ((fv_X6_records M) 1 ((1 : Int32)).toNatClampNeg) (10 : Int32) (-1 : Int32) (fv_X6_records M)) 1 ((1 : Int32)).toNatClampNeg (((fv_X6_adds ((fv_X6_records M) 1 ((1 : Int32)).toNatClampNeg) (10 : Int32) (-1 : Int32) (fv_X6_records M)) 1 ((1 : Int32)).toNatClampNeg) + (1 : Int32))))
def ok_X6_addStation  (M : ps_M) : Prop := (vp_in (1 : Int32) 237) ∧ (((M 1 ((1 : Int32)).toNatClampNeg) = (6 : Int32) → True) ∧ (¬ ((M 1 ((1 : Int32)).toNatClampNeg) = (6 : Int32)) → ((ok_X6_records M) ∧ ((vp_in (1 : Int32) 237) ∧ ((ok_X6_adds ((fv_X6_records M) 1 ((1 : Int32)).toNatClampNeg) (10 : Int32) (-1 : Int32) (fv_X6_records M)) ∧ ((vp_in (1 : Int32) 237) ∧ ((vp_in (1 : Int32) 237) ∧ (ok_X6_addStation_41  (ps_st (fv_X6_adds ((fv_X6_records M) 1 ((1 : Int32)).toNatClampNeg) (10 : Int32) (-1 : Int32) (fv_X6_records M)) 1 ((1 : Int32)).toNatClampNeg (((fv_X6_adds ((fv_X6_records M) 1 ((1 : Int32)).toNatClampNeg) (10 : Int32) (-1 : Int32) (fv_X6_records M)) 1 ((1 : Int32)).toNatClampNeg) + (1 : Int32)))))))))))
set_option maxRecDepth 100000 in
set_option maxHeartbeats 4000000 in
theorem bw_X6_addStation {E : ps_E} {X : ps_X (Int32 × ps_M)} (C : ps_C (pm_Y E) X cX6_addStation RX6 (some .int) 2 45 1) (RT : ps_RI (pm_Y E) X cX6_addStation .int)  (M : ps_M) (hk : ok_X6_addStation  M) : ps_G (pm_Y E) X (fv_X6_addStation  M) 0 [(0, .ref (ps_ad E 0))] [] M := by
  unfold fv_X6_addStation
  unfold ok_X6_addStation at hk
  refine gw_aload_n C 1 dX6_addStation_0 0 rfl rfl ?_
  refine gf_X6_7 C 4 dX6_addStation_1 rfl ?_
  refine gw_iconst C 5 dX6_addStation_4 (v := 1) (by decide) rfl ?_
  refine gm_ld C 6 dX6_addStation_5 rfl (by decide) hk.1 ?_
  refine gw_bipush C 8 dX6_addStation_6 (v := 6) (by decide) rfl ?_
  refine gw_ic_ne C 14 11 dX6_addStation_8 (by decide) rfl (fun c8 => ?_) (fun c8 => ?_)
  · refine gw_bipush C 13 dX6_addStation_11 (v := (-3)) (by decide) rfl ?_
    exact RT _ _ _ _ dX6_addStation_13 rfl
  · refine gw_aload_n C 15 dX6_addStation_14 0 rfl rfl ?_
    refine gw_cVv C 18 dX6_addStation_15 rfl yv_X6_records lk_X6_40 [] [] rfl (ct_X6_records (E := E) (l := ps_l X) M (hk.2.2 c8).1) pm_recv rfl (Nat.le_of_ble_eq_true rfl) (Nat.le_of_ble_eq_true rfl) (Nat.le_of_ble_eq_true rfl) ?_
    refine gw_aload_n C 19 dX6_addStation_18 0 rfl rfl ?_
    refine gw_aload_n C 20 dX6_addStation_19 0 rfl rfl ?_
    refine gf_X6_7 C 23 dX6_addStation_20 rfl ?_
    refine gw_iconst C 24 dX6_addStation_23 (v := 1) (by decide) rfl ?_
    refine gm_ld C 25 dX6_addStation_24 rfl (by decide) (hk.2.2 c8).2.1 ?_
    refine gw_bipush C 27 dX6_addStation_25 (v := 10) (by decide) rfl ?_
    refine gw_iconst C 28 dX6_addStation_27 (v := (-1)) (by decide) rfl ?_
    refine gw_cVv C 31 dX6_addStation_28 rfl yv_X6_adds lk_X6_43 [.int ((fv_X6_records M) 1 ((1 : Int32)).toNatClampNeg), .int (10 : Int32), .int (-1 : Int32)] [] rfl (ct_X6_adds (E := E) (l := ps_l X) ((fv_X6_records M) 1 ((1 : Int32)).toNatClampNeg) (10 : Int32) (-1 : Int32) (fv_X6_records M) (hk.2.2 c8).2.2.1) pm_recv rfl (Nat.le_of_ble_eq_true rfl) (Nat.le_of_ble_eq_true rfl) (Nat.le_of_ble_eq_true rfl) ?_
    refine gw_aload_n C 32 dX6_addStation_31 0 rfl rfl ?_
    refine gf_X6_7 C 35 dX6_addStation_32 rfl ?_
    refine gw_iconst C 36 dX6_addStation_35 (v := 1) (by decide) rfl ?_
    refine gw_dup2 C 37 dX6_addStation_36 rfl rfl rfl ?_
    refine gm_ld C 38 dX6_addStation_37 rfl (by decide) (hk.2.2 c8).2.2.2.1 ?_
    refine gw_iconst C 39 dX6_addStation_38 (v := 1) (by decide) rfl ?_
    refine gw_iadd C 40 dX6_addStation_39 rfl ?_
    refine gm_sv C 41 dX6_addStation_40 rfl (by decide) (hk.2.2 c8).2.2.2.2.1 ?_
    exact bw_X6_addStation_41 C RT  (ps_st (fv_X6_adds ((fv_X6_records M) 1 ((1 : Int32)).toNatClampNeg) (10 : Int32) (-1 : Int32) (fv_X6_records M)) 1 ((1 : Int32)).toNatClampNeg (((fv_X6_adds ((fv_X6_records M) 1 ((1 : Int32)).toNatClampNeg) (10 : Int32) (-1 : Int32) (fv_X6_records M)) 1 ((1 : Int32)).toNatClampNeg) + (1 : Int32))) (hk.2.2 c8).2.2.2.2.2
theorem ct_X6_addStation {E : ps_E} {l : Launch}   (M : ps_M) (hk : ok_X6_addStation  M) : ps_CI (pm_Y E) l yX6_addStation cX6_addStation 1 (some .int) 2 45 [.ref (ps_ad E 0)] M (fv_X6_addStation  M) := ps_metI RX6 (by decide) rfl (Nat.le_of_ble_eq_true rfl) rfl (fun X _ C RT => bw_X6_addStation C RT M hk)
def fv_X6_addClerk_79 (x3 : Int32) (M : ps_M) : Int32 × ps_M := (x3, M)
def ok_X6_addClerk_79 (x3 : Int32) (M : ps_M) : Prop := True
set_option maxRecDepth 100000 in
set_option maxHeartbeats 4000000 in
theorem bw_X6_addClerk_79 {E : ps_E} {X : ps_X (Int32 × ps_M)} (C : ps_C (pm_Y E) X cX6_addClerk RX6 (some .int) 2 45 4) (RT : ps_RI (pm_Y E) X cX6_addClerk .int) (x3 : Int32) (M : ps_M) (hk : ok_X6_addClerk_79 x3 M) : ps_G (pm_Y E) X (fv_X6_addClerk_79 x3 M) 79 [(3, .int x3)] [] M := by
  unfold fv_X6_addClerk_79
  unfold ok_X6_addClerk_79 at hk
  refine gw_iload_n C 80 dX6_addClerk_79 0 rfl rfl ?_
  exact RT _ _ _ _ dX6_addClerk_80 rfl
def fv_X6_addClerk_62 (x3 : Int32) (M : ps_M) : Int32 × ps_M := fv_X6_addClerk_79 x3 (ps_st (fv_X6_laysClerk x3 (2 : Int32) (-1 : Int32) M) 1 ((2 : Int32)).toNatClampNeg (((fv_X6_laysClerk x3 (2 : Int32) (-1 : Int32) M) 1 ((2 : Int32)).toNatClampNeg) + (1 : Int32)))
def ok_X6_addClerk_62 (x3 : Int32) (M : ps_M) : Prop := (ok_X6_laysClerk x3 (2 : Int32) (-1 : Int32) M) ∧ ((vp_in (2 : Int32) 237) ∧ ((vp_in (2 : Int32) 237) ∧ (ok_X6_addClerk_79 x3 (ps_st (fv_X6_laysClerk x3 (2 : Int32) (-1 : Int32) M) 1 ((2 : Int32)).toNatClampNeg (((fv_X6_laysClerk x3 (2 : Int32) (-1 : Int32) M) 1 ((2 : Int32)).toNatClampNeg) + (1 : Int32))))))
set_option maxRecDepth 100000 in
set_option maxHeartbeats 4000000 in
theorem bw_X6_addClerk_62 {E : ps_E} {X : ps_X (Int32 × ps_M)} (C : ps_C (pm_Y E) X cX6_addClerk RX6 (some .int) 2 45 4) (RT : ps_RI (pm_Y E) X cX6_addClerk .int) (x3 : Int32) (M : ps_M) (hk : ok_X6_addClerk_62 x3 M) : ps_G (pm_Y E) X (fv_X6_addClerk_62 x3 M) 62 [(0, .ref (ps_ad E 0)), (3, .int x3)] [] M := by
  unfold fv_X6_addClerk_62
  unfold ok_X6_addClerk_62 at hk
  refine gw_aload_n C 63 dX6_addClerk_62 0 rfl rfl ?_
  refine gw_iload_n C 64 dX6_addClerk_63 1 rfl rfl ?_
  refine gw_iconst C 65 dX6_addClerk_64 (v := 2) (by decide) rfl ?_
  refine gw_iconst C 66 dX6_addClerk_65 (v := (-1)) (by decide) rfl ?_
  refine gw_cVv C 69 dX6_addClerk_66 rfl yv_X6_laysClerk lk_X6_47 [.int x3, .int (2 : Int32), .int (-1 : Int32)] [] rfl (ct_X6_laysClerk (E := E) (l := ps_l X) x3 (2 : Int32) (-1 : Int32) M hk.1) pm_recv rfl (Nat.le_of_ble_eq_true rfl) (Nat.le_of_ble_eq_true rfl) (Nat.le_of_ble_eq_true rfl) ?_
  refine gw_aload_n C 70 dX6_addClerk_69 0 rfl rfl ?_
  refine gf_X6_7 C 73 dX6_addClerk_70 rfl ?_
  refine gw_iconst C 74 dX6_addClerk_73 (v := 2) (by decide) rfl ?_
  refine gw_dup2 C 75 dX6_addClerk_74 rfl rfl rfl ?_
  refine gm_ld C 76 dX6_addClerk_75 rfl (by decide) hk.2.1 ?_
  refine gw_iconst C 77 dX6_addClerk_76 (v := 1) (by decide) rfl ?_
  refine gw_iadd C 78 dX6_addClerk_77 rfl ?_
  refine gm_sv C 79 dX6_addClerk_78 rfl (by decide) hk.2.2.1 ?_
  refine gw_sub C [(3, .int x3)] [1] rfl ?_
  exact bw_X6_addClerk_79 C RT  x3 (ps_st (fv_X6_laysClerk x3 (2 : Int32) (-1 : Int32) M) 1 ((2 : Int32)).toNatClampNeg (((fv_X6_laysClerk x3 (2 : Int32) (-1 : Int32) M) 1 ((2 : Int32)).toNatClampNeg) + (1 : Int32))) hk.2.2.2
def fv_X6_addClerk (x1 : Int32) (x2 : Int32) (M : ps_M) : Int32 × ps_M := if (fv_X6_in x1 (1 : Int32) (60 : Int32) M) = 0 then (((-2 : Int32), M)) else (if (fv_X6_in x2 (1 : Int32) (6 : Int32) M) = 0 then (((-2 : Int32), M)) else (if (M 1 ((2 : Int32)).toNatClampNeg) = (12 : Int32) then (((-3 : Int32), M)) else (fv_X6_addClerk_62 ((fv_X6_records M) 1 ((2 : Int32)).toNatClampNeg) (fv_X6_laysClerk ((fv_X6_records M) 1 ((2 : Int32)).toNatClampNeg) (1 : Int32) x2 (fv_X6_laysClerk ((fv_X6_records M) 1 ((2 : Int32)).toNatClampNeg) (0 : Int32) x1 (fv_X6_records M))))))
def ok_X6_addClerk (x1 : Int32) (x2 : Int32) (M : ps_M) : Prop := (ok_X6_in x1 (1 : Int32) (60 : Int32) M) ∧ (((fv_X6_in x1 (1 : Int32) (60 : Int32) M) = 0 → True) ∧ (¬ ((fv_X6_in x1 (1 : Int32) (60 : Int32) M) = 0) → ((ok_X6_in x2 (1 : Int32) (6 : Int32) M) ∧ (((fv_X6_in x2 (1 : Int32) (6 : Int32) M) = 0 → True) ∧ (¬ ((fv_X6_in x2 (1 : Int32) (6 : Int32) M) = 0) → ((vp_in (2 : Int32) 237) ∧ (((M 1 ((2 : Int32)).toNatClampNeg) = (12 : Int32) → True) ∧ (¬ ((M 1 ((2 : Int32)).toNatClampNeg) = (12 : Int32)) → ((ok_X6_records M) ∧ ((vp_in (2 : Int32) 237) ∧ ((ok_X6_laysClerk ((fv_X6_records M) 1 ((2 : Int32)).toNatClampNeg) (0 : Int32) x1 (fv_X6_records M)) ∧ ((ok_X6_laysClerk ((fv_X6_records M) 1 ((2 : Int32)).toNatClampNeg) (1 : Int32) x2 (fv_X6_laysClerk ((fv_X6_records M) 1 ((2 : Int32)).toNatClampNeg) (0 : Int32) x1 (fv_X6_records M))) ∧ (ok_X6_addClerk_62 ((fv_X6_records M) 1 ((2 : Int32)).toNatClampNeg) (fv_X6_laysClerk ((fv_X6_records M) 1 ((2 : Int32)).toNatClampNeg) (1 : Int32) x2 (fv_X6_laysClerk ((fv_X6_records M) 1 ((2 : Int32)).toNatClampNeg) (0 : Int32) x1 (fv_X6_records M))))))))))))))))
set_option maxRecDepth 100000 in
set_option maxHeartbeats 4000000 in
theorem bw_X6_addClerk {E : ps_E} {X : ps_X (Int32 × ps_M)} (C : ps_C (pm_Y E) X cX6_addClerk RX6 (some .int) 2 45 4) (RT : ps_RI (pm_Y E) X cX6_addClerk .int) (x1 : Int32) (x2 : Int32) (M : ps_M) (hk : ok_X6_addClerk x1 x2 M) : ps_G (pm_Y E) X (fv_X6_addClerk x1 x2 M) 0 [(0, .ref (ps_ad E 0)), (1, .int x1), (2, .int x2)] [] M := by
  unfold fv_X6_addClerk
  unfold ok_X6_addClerk at hk
  refine gw_iload_n C 1 dX6_addClerk_0 1 rfl rfl ?_
  refine gw_iconst C 2 dX6_addClerk_1 (v := 1) (by decide) rfl ?_
  refine gw_bipush C 4 dX6_addClerk_2 (v := 60) (by decide) rfl ?_
  refine gw_cSp C 7 dX6_addClerk_4 rfl yv_X6_in lk_X6_36 [.int x1, .int (1 : Int32), .int (60 : Int32)] [] rfl (ct_X6_in (E := E) (l := ps_l X) x1 (1 : Int32) (60 : Int32) M hk.1) rfl (Nat.le_of_ble_eq_true rfl) (Nat.le_of_ble_eq_true rfl) (Nat.le_of_ble_eq_true rfl) ?_
  refine gw_if_eq C 20 10 dX6_addClerk_7 (by decide) rfl (fun c7 => ?_) (fun c7 => ?_)
  · refine gw_bipush C 22 dX6_addClerk_20 (v := (-2)) (by decide) rfl ?_
    exact RT _ _ _ _ dX6_addClerk_22 rfl
  · refine gw_iload_n C 11 dX6_addClerk_10 2 rfl rfl ?_
    refine gw_iconst C 12 dX6_addClerk_11 (v := 1) (by decide) rfl ?_
    refine gw_bipush C 14 dX6_addClerk_12 (v := 6) (by decide) rfl ?_
    refine gw_cSp C 17 dX6_addClerk_14 rfl yv_X6_in lk_X6_36 [.int x2, .int (1 : Int32), .int (6 : Int32)] [] rfl (ct_X6_in (E := E) (l := ps_l X) x2 (1 : Int32) (6 : Int32) M (hk.2.2 c7).1) rfl (Nat.le_of_ble_eq_true rfl) (Nat.le_of_ble_eq_true rfl) (Nat.le_of_ble_eq_true rfl) ?_
    refine gw_if_ne C 23 20 dX6_addClerk_17 (by decide) rfl (fun c17 => ?_) (fun c17 => ?_)
    · refine gw_bipush C 22 dX6_addClerk_20 (v := (-2)) (by decide) rfl ?_
      exact RT _ _ _ _ dX6_addClerk_22 rfl
    · refine gw_aload_n C 24 dX6_addClerk_23 0 rfl rfl ?_
      refine gf_X6_7 C 27 dX6_addClerk_24 rfl ?_
      refine gw_iconst C 28 dX6_addClerk_27 (v := 2) (by decide) rfl ?_
      refine gm_ld C 29 dX6_addClerk_28 rfl (by decide) ((hk.2.2 c7).2.2 c17).1 ?_
      refine gw_bipush C 31 dX6_addClerk_29 (v := 12) (by decide) rfl ?_
      refine gw_ic_ne C 37 34 dX6_addClerk_31 (by decide) rfl (fun c31 => ?_) (fun c31 => ?_)
      · refine gw_bipush C 36 dX6_addClerk_34 (v := (-3)) (by decide) rfl ?_
        exact RT _ _ _ _ dX6_addClerk_36 rfl
      · refine gw_aload_n C 38 dX6_addClerk_37 0 rfl rfl ?_
        refine gw_cVv C 41 dX6_addClerk_38 rfl yv_X6_records lk_X6_40 [] [] rfl (ct_X6_records (E := E) (l := ps_l X) M (((hk.2.2 c7).2.2 c17).2.2 c31).1) pm_recv rfl (Nat.le_of_ble_eq_true rfl) (Nat.le_of_ble_eq_true rfl) (Nat.le_of_ble_eq_true rfl) ?_
        refine gw_aload_n C 42 dX6_addClerk_41 0 rfl rfl ?_
        refine gf_X6_7 C 45 dX6_addClerk_42 rfl ?_
        refine gw_iconst C 46 dX6_addClerk_45 (v := 2) (by decide) rfl ?_
        refine gm_ld C 47 dX6_addClerk_46 rfl (by decide) (((hk.2.2 c7).2.2 c17).2.2 c31).2.1 ?_
        refine gw_istore_n C 48 dX6_addClerk_47 rfl [(0, .ref (ps_ad E 0)), (1, .int x1), (2, .int x2), (3, .int ((fv_X6_records M) 1 ((2 : Int32)).toNatClampNeg))] [1, 2, 3, 0] (by decide) rfl ?_
        refine gw_aload_n C 49 dX6_addClerk_48 0 rfl rfl ?_
        refine gw_iload_n C 50 dX6_addClerk_49 3 rfl rfl ?_
        refine gw_iconst C 51 dX6_addClerk_50 (v := 0) (by decide) rfl ?_
        refine gw_iload_n C 52 dX6_addClerk_51 1 rfl rfl ?_
        refine gw_cVv C 55 dX6_addClerk_52 rfl yv_X6_laysClerk lk_X6_47 [.int ((fv_X6_records M) 1 ((2 : Int32)).toNatClampNeg), .int (0 : Int32), .int x1] [] rfl (ct_X6_laysClerk (E := E) (l := ps_l X) ((fv_X6_records M) 1 ((2 : Int32)).toNatClampNeg) (0 : Int32) x1 (fv_X6_records M) (((hk.2.2 c7).2.2 c17).2.2 c31).2.2.1) pm_recv rfl (Nat.le_of_ble_eq_true rfl) (Nat.le_of_ble_eq_true rfl) (Nat.le_of_ble_eq_true rfl) ?_
        refine gw_aload_n C 56 dX6_addClerk_55 0 rfl rfl ?_
        refine gw_iload_n C 57 dX6_addClerk_56 3 rfl rfl ?_
        refine gw_iconst C 58 dX6_addClerk_57 (v := 1) (by decide) rfl ?_
        refine gw_iload_n C 59 dX6_addClerk_58 2 rfl rfl ?_
        refine gw_cVv C 62 dX6_addClerk_59 rfl yv_X6_laysClerk lk_X6_47 [.int ((fv_X6_records M) 1 ((2 : Int32)).toNatClampNeg), .int (1 : Int32), .int x2] [] rfl (ct_X6_laysClerk (E := E) (l := ps_l X) ((fv_X6_records M) 1 ((2 : Int32)).toNatClampNeg) (1 : Int32) x2 (fv_X6_laysClerk ((fv_X6_records M) 1 ((2 : Int32)).toNatClampNeg) (0 : Int32) x1 (fv_X6_records M)) (((hk.2.2 c7).2.2 c17).2.2 c31).2.2.2.1) pm_recv rfl (Nat.le_of_ble_eq_true rfl) (Nat.le_of_ble_eq_true rfl) (Nat.le_of_ble_eq_true rfl) ?_
        refine gw_sub C [(0, .ref (ps_ad E 0)), (3, .int ((fv_X6_records M) 1 ((2 : Int32)).toNatClampNeg))] [0, 3] rfl ?_
        exact bw_X6_addClerk_62 C RT  ((fv_X6_records M) 1 ((2 : Int32)).toNatClampNeg) (fv_X6_laysClerk ((fv_X6_records M) 1 ((2 : Int32)).toNatClampNeg) (1 : Int32) x2 (fv_X6_laysClerk ((fv_X6_records M) 1 ((2 : Int32)).toNatClampNeg) (0 : Int32) x1 (fv_X6_records M))) (((hk.2.2 c7).2.2 c17).2.2 c31).2.2.2.2
theorem ct_X6_addClerk {E : ps_E} {l : Launch} (x1 : Int32) (x2 : Int32)  (M : ps_M) (hk : ok_X6_addClerk x1 x2 M) : ps_CI (pm_Y E) l yX6_addClerk cX6_addClerk 4 (some .int) 2 45 [.ref (ps_ad E 0), .int x1, .int x2] M (fv_X6_addClerk x1 x2 M) := ps_metI RX6 (by decide) rfl (Nat.le_of_ble_eq_true rfl) rfl (fun X _ C RT => bw_X6_addClerk C RT x1 x2 M hk)
def fv_X6_setArrivals (x1 : Int32) (x2 : Int32) (x3 : Int32) (M : ps_M) : Int32 × ps_M := if (fv_X6_isStation x1 M) = 0 then (((-1 : Int32), M)) else (if (fv_X6_in x2 (M 1 ((0 : Int32)).toNatClampNeg) (14 : Int32) M) = 0 then (((-2 : Int32), M)) else (if (fv_X6_in x3 (0 : Int32) (500 : Int32) M) = 0 then (((-2 : Int32), M)) else (if (fv_X6_of x1 ((12 : Int32) + x2) M) = x3 then (((-5 : Int32), M)) else (((fv_X6_of x1 ((12 : Int32) + x2) M), (fv_X6_adds x1 ((12 : Int32) + x2) (x3 - (fv_X6_of x1 ((12 : Int32) + x2) M)) (fv_X6_records M)))))))
def ok_X6_setArrivals (x1 : Int32) (x2 : Int32) (x3 : Int32) (M : ps_M) : Prop := (ok_X6_isStation x1 M) ∧ (((fv_X6_isStation x1 M) = 0 → True) ∧ (¬ ((fv_X6_isStation x1 M) = 0) → ((vp_in (0 : Int32) 237) ∧ ((ok_X6_in x2 (M 1 ((0 : Int32)).toNatClampNeg) (14 : Int32) M) ∧ (((fv_X6_in x2 (M 1 ((0 : Int32)).toNatClampNeg) (14 : Int32) M) = 0 → True) ∧ (¬ ((fv_X6_in x2 (M 1 ((0 : Int32)).toNatClampNeg) (14 : Int32) M) = 0) → ((ok_X6_in x3 (0 : Int32) (500 : Int32) M) ∧ (((fv_X6_in x3 (0 : Int32) (500 : Int32) M) = 0 → True) ∧ (¬ ((fv_X6_in x3 (0 : Int32) (500 : Int32) M) = 0) → ((ok_X6_of x1 ((12 : Int32) + x2) M) ∧ (((fv_X6_of x1 ((12 : Int32) + x2) M) = x3 → True) ∧ (¬ ((fv_X6_of x1 ((12 : Int32) + x2) M) = x3) → ((ok_X6_records M) ∧ ((ok_X6_adds x1 ((12 : Int32) + x2) (x3 - (fv_X6_of x1 ((12 : Int32) + x2) M)) (fv_X6_records M)) ∧ True))))))))))))))
set_option maxRecDepth 100000 in
set_option maxHeartbeats 4000000 in
theorem bw_X6_setArrivals {E : ps_E} {X : ps_X (Int32 × ps_M)} (C : ps_C (pm_Y E) X cX6_setArrivals RX6 (some .int) 2 45 5) (RT : ps_RI (pm_Y E) X cX6_setArrivals .int) (x1 : Int32) (x2 : Int32) (x3 : Int32) (M : ps_M) (hk : ok_X6_setArrivals x1 x2 x3 M) : ps_G (pm_Y E) X (fv_X6_setArrivals x1 x2 x3 M) 0 [(0, .ref (ps_ad E 0)), (1, .int x1), (2, .int x2), (3, .int x3)] [] M := by
  unfold fv_X6_setArrivals
  unfold ok_X6_setArrivals at hk
  refine gw_aload_n C 1 dX6_setArrivals_0 0 rfl rfl ?_
  refine gw_iload_n C 2 dX6_setArrivals_1 1 rfl rfl ?_
  refine gw_cVp C 5 dX6_setArrivals_2 rfl yv_X6_isStation lk_X6_50 [.int x1] [] rfl (ct_X6_isStation (E := E) (l := ps_l X) x1 M hk.1) pm_recv rfl (Nat.le_of_ble_eq_true rfl) (Nat.le_of_ble_eq_true rfl) (Nat.le_of_ble_eq_true rfl) ?_
  refine gw_if_ne C 10 8 dX6_setArrivals_5 (by decide) rfl (fun c5 => ?_) (fun c5 => ?_)
  · refine gw_iconst C 9 dX6_setArrivals_8 (v := (-1)) (by decide) rfl ?_
    exact RT _ _ _ _ dX6_setArrivals_9 rfl
  · refine gw_iload_n C 11 dX6_setArrivals_10 2 rfl rfl ?_
    refine gw_aload_n C 12 dX6_setArrivals_11 0 rfl rfl ?_
    refine gf_X6_7 C 15 dX6_setArrivals_12 rfl ?_
    refine gw_iconst C 16 dX6_setArrivals_15 (v := 0) (by decide) rfl ?_
    refine gm_ld C 17 dX6_setArrivals_16 rfl (by decide) (hk.2.2 c5).1 ?_
    refine gw_bipush C 19 dX6_setArrivals_17 (v := 14) (by decide) rfl ?_
    refine gw_cSp C 22 dX6_setArrivals_19 rfl yv_X6_in lk_X6_36 [.int x2, .int (M 1 ((0 : Int32)).toNatClampNeg), .int (14 : Int32)] [] rfl (ct_X6_in (E := E) (l := ps_l X) x2 (M 1 ((0 : Int32)).toNatClampNeg) (14 : Int32) M (hk.2.2 c5).2.1) rfl (Nat.le_of_ble_eq_true rfl) (Nat.le_of_ble_eq_true rfl) (Nat.le_of_ble_eq_true rfl) ?_
    refine gw_if_eq C 36 25 dX6_setArrivals_22 (by decide) rfl (fun c22 => ?_) (fun c22 => ?_)
    · refine gw_bipush C 38 dX6_setArrivals_36 (v := (-2)) (by decide) rfl ?_
      exact RT _ _ _ _ dX6_setArrivals_38 rfl
    · refine gw_iload_n C 26 dX6_setArrivals_25 3 rfl rfl ?_
      refine gw_iconst C 27 dX6_setArrivals_26 (v := 0) (by decide) rfl ?_
      refine gw_sipush C 30 dX6_setArrivals_27 (v := 500) (by decide) rfl ?_
      refine gw_cSp C 33 dX6_setArrivals_30 rfl yv_X6_in lk_X6_36 [.int x3, .int (0 : Int32), .int (500 : Int32)] [] rfl (ct_X6_in (E := E) (l := ps_l X) x3 (0 : Int32) (500 : Int32) M ((hk.2.2 c5).2.2.2 c22).1) rfl (Nat.le_of_ble_eq_true rfl) (Nat.le_of_ble_eq_true rfl) (Nat.le_of_ble_eq_true rfl) ?_
      refine gw_if_ne C 39 36 dX6_setArrivals_33 (by decide) rfl (fun c33 => ?_) (fun c33 => ?_)
      · refine gw_bipush C 38 dX6_setArrivals_36 (v := (-2)) (by decide) rfl ?_
        exact RT _ _ _ _ dX6_setArrivals_38 rfl
      · refine gw_aload_n C 40 dX6_setArrivals_39 0 rfl rfl ?_
        refine gw_iload_n C 41 dX6_setArrivals_40 1 rfl rfl ?_
        refine gw_bipush C 43 dX6_setArrivals_41 (v := 12) (by decide) rfl ?_
        refine gw_iload_n C 44 dX6_setArrivals_43 2 rfl rfl ?_
        refine gw_iadd C 45 dX6_setArrivals_44 rfl ?_
        refine gw_cVp C 48 dX6_setArrivals_45 rfl yv_X6_of lk_X6_54 [.int x1, .int ((12 : Int32) + x2)] [] rfl (ct_X6_of (E := E) (l := ps_l X) x1 ((12 : Int32) + x2) M (((hk.2.2 c5).2.2.2 c22).2.2 c33).1) pm_recv rfl (Nat.le_of_ble_eq_true rfl) (Nat.le_of_ble_eq_true rfl) (Nat.le_of_ble_eq_true rfl) ?_
        refine gw_istore C 50 dX6_setArrivals_48 rfl [(0, .ref (ps_ad E 0)), (1, .int x1), (2, .int x2), (3, .int x3), (4, .int (fv_X6_of x1 ((12 : Int32) + x2) M))] [1, 2, 3, 4, 0] (by decide) rfl ?_
        refine gw_iload C 52 dX6_setArrivals_50 4 rfl rfl ?_
        refine gw_iload_n C 53 dX6_setArrivals_52 3 rfl rfl ?_
        refine gw_ic_ne C 59 56 dX6_setArrivals_53 (by decide) rfl (fun c53 => ?_) (fun c53 => ?_)
        · refine gw_bipush C 58 dX6_setArrivals_56 (v := (-5)) (by decide) rfl ?_
          exact RT _ _ _ _ dX6_setArrivals_58 rfl
        · refine gw_aload_n C 60 dX6_setArrivals_59 0 rfl rfl ?_
          refine gw_cVv C 63 dX6_setArrivals_60 rfl yv_X6_records lk_X6_40 [] [] rfl (ct_X6_records (E := E) (l := ps_l X) M ((((hk.2.2 c5).2.2.2 c22).2.2 c33).2.2 c53).1) pm_recv rfl (Nat.le_of_ble_eq_true rfl) (Nat.le_of_ble_eq_true rfl) (Nat.le_of_ble_eq_true rfl) ?_
          refine gw_aload_n C 64 dX6_setArrivals_63 0 rfl rfl ?_
          refine gw_iload_n C 65 dX6_setArrivals_64 1 rfl rfl ?_
          refine gw_bipush C 67 dX6_setArrivals_65 (v := 12) (by decide) rfl ?_
          refine gw_iload_n C 68 dX6_setArrivals_67 2 rfl rfl ?_
          refine gw_iadd C 69 dX6_setArrivals_68 rfl ?_
          refine gw_iload_n C 70 dX6_setArrivals_69 3 rfl rfl ?_
          refine gw_iload C 72 dX6_setArrivals_70 4 rfl rfl ?_
          refine gw_isub C 73 dX6_setArrivals_72 rfl ?_
          refine gw_cVv C 76 dX6_setArrivals_73 rfl yv_X6_adds lk_X6_43 [.int x1, .int ((12 : Int32) + x2), .int (x3 - (fv_X6_of x1 ((12 : Int32) + x2) M))] [] rfl (ct_X6_adds (E := E) (l := ps_l X) x1 ((12 : Int32) + x2) (x3 - (fv_X6_of x1 ((12 : Int32) + x2) M)) (fv_X6_records M) ((((hk.2.2 c5).2.2.2 c22).2.2 c33).2.2 c53).2.1) pm_recv rfl (Nat.le_of_ble_eq_true rfl) (Nat.le_of_ble_eq_true rfl) (Nat.le_of_ble_eq_true rfl) ?_
          refine gw_iload C 78 dX6_setArrivals_76 4 rfl rfl ?_
          exact RT _ _ _ _ dX6_setArrivals_78 rfl
theorem ct_X6_setArrivals {E : ps_E} {l : Launch} (x1 : Int32) (x2 : Int32) (x3 : Int32)  (M : ps_M) (hk : ok_X6_setArrivals x1 x2 x3 M) : ps_CI (pm_Y E) l yX6_setArrivals cX6_setArrivals 5 (some .int) 2 45 [.ref (ps_ad E 0), .int x1, .int x2, .int x3] M (fv_X6_setArrivals x1 x2 x3 M) := ps_metI RX6 (by decide) rfl (Nat.le_of_ble_eq_true rfl) rfl (fun X _ C RT => bw_X6_setArrivals C RT x1 x2 x3 M hk)
def fv_X6_isFree (x1 : Int32) (M : ps_M) : Int32 := if (fv_X6_ofClerk x1 (2 : Int32) M) = (-1 : Int32) then (if (fv_X6_ofClerk x1 (5 : Int32) M) = 0 then ((1 : Int32)) else ((0 : Int32))) else ((0 : Int32))
def ok_X6_isFree (x1 : Int32) (M : ps_M) : Prop := (ok_X6_ofClerk x1 (2 : Int32) M) ∧ (((fv_X6_ofClerk x1 (2 : Int32) M) = (-1 : Int32) → ((ok_X6_ofClerk x1 (5 : Int32) M) ∧ True)) ∧ (¬ ((fv_X6_ofClerk x1 (2 : Int32) M) = (-1 : Int32)) → True))
set_option maxRecDepth 100000 in
set_option maxHeartbeats 4000000 in
theorem bw_X6_isFree {E : ps_E} {X : ps_X (Int32 × ps_M)} (C : ps_C (pm_Y E) X cX6_isFree RX6 (some .boolean) 1 22 2) (RT : ps_RI (pm_Y E) X cX6_isFree .boolean) (M : ps_M) (x1 : Int32) (hk : ok_X6_isFree x1 M) : ps_G (pm_Y E) X (fv_X6_isFree x1 M, M) 0 [(0, .ref (ps_ad E 0)), (1, .int x1)] [] M := by
  unfold fv_X6_isFree
  unfold ok_X6_isFree at hk
  refine gw_aload_n C 1 dX6_isFree_0 0 rfl rfl ?_
  refine gw_iload_n C 2 dX6_isFree_1 1 rfl rfl ?_
  refine gw_iconst C 3 dX6_isFree_2 (v := 2) (by decide) rfl ?_
  refine gw_cVp C 6 dX6_isFree_3 rfl yv_X6_ofClerk lk_X6_58 [.int x1, .int (2 : Int32)] [] rfl (ct_X6_ofClerk (E := E) (l := ps_l X) x1 (2 : Int32) M hk.1) pm_recv rfl (Nat.le_of_ble_eq_true rfl) (Nat.le_of_ble_eq_true rfl) (Nat.le_of_ble_eq_true rfl) ?_
  refine gw_iconst C 7 dX6_isFree_6 (v := (-1)) (by decide) rfl ?_
  refine gw_ic_neP C 23 10 dX6_isFree_7 (by decide) rfl (fun c7 => ?_) (fun c7 => ?_)
  · refine gw_aload_n C 11 dX6_isFree_10 0 rfl rfl ?_
    refine gw_iload_n C 12 dX6_isFree_11 1 rfl rfl ?_
    refine gw_iconst C 13 dX6_isFree_12 (v := 5) (by decide) rfl ?_
    refine gw_cVp C 16 dX6_isFree_13 rfl yv_X6_ofClerk lk_X6_58 [.int x1, .int (5 : Int32)] [] rfl (ct_X6_ofClerk (E := E) (l := ps_l X) x1 (5 : Int32) M (hk.2.1 c7).1) pm_recv rfl (Nat.le_of_ble_eq_true rfl) (Nat.le_of_ble_eq_true rfl) (Nat.le_of_ble_eq_true rfl) ?_
    refine gw_if_neP C 23 19 dX6_isFree_16 (by decide) rfl (fun c16 => ?_) (fun c16 => ?_)
    · refine gw_iconst C 20 dX6_isFree_19 (v := 1) (by decide) rfl ?_
      refine gw_goto C 24 dX6_isFree_20 (by decide) ?_
      exact RT _ _ _ _ dX6_isFree_24 ps_nb1
    · refine gw_iconst C 24 dX6_isFree_23 (v := 0) (by decide) rfl ?_
      exact RT _ _ _ _ dX6_isFree_24 ps_nb0
  · refine gw_iconst C 24 dX6_isFree_23 (v := 0) (by decide) rfl ?_
    exact RT _ _ _ _ dX6_isFree_24 ps_nb0
theorem ct_X6_isFree {E : ps_E} {l : Launch} (x1 : Int32)  (M : ps_M) (hk : ok_X6_isFree x1 M) : ps_CI (pm_Y E) l yX6_isFree cX6_isFree 2 (some .boolean) 1 22 [.ref (ps_ad E 0), .int x1] M (fv_X6_isFree x1 M, M) := ps_metI RX6 (by decide) rfl (Nat.le_of_ble_eq_true rfl) rfl (fun X _ C RT => bw_X6_isFree C RT M x1 hk)
def fv_X6_aheadOf_75 (rec4 : Int32 → Int32 → Int32 → ps_M → Int32) (x1 : Int32) (x3 : Int32) (s1 : Int32) (s0 : Int32) (M : ps_M) : Int32 := rec4 x1 (s0 + s1) (x3 + (1 : Int32)) M
def ok_X6_aheadOf_75 (rec4 : Int32 → Int32 → Int32 → ps_M → Int32) (okr4 : Int32 → Int32 → Int32 → ps_M → Prop) (x1 : Int32) (x3 : Int32) (s1 : Int32) (s0 : Int32) (M : ps_M) : Prop := okr4 x1 (s0 + s1) (x3 + (1 : Int32)) M
set_option maxRecDepth 100000 in
set_option maxHeartbeats 4000000 in
theorem bw_X6_aheadOf_75 {E : ps_E} {X : ps_X (Int32 × ps_M)} (C : ps_C (pm_Y E) X cX6_aheadOf RX6 (some .int) 2 43 6) (RT : ps_RI (pm_Y E) X cX6_aheadOf .int) (M : ps_M) (rec4 : Int32 → Int32 → Int32 → ps_M → Int32) (okr4 : Int32 → Int32 → Int32 → ps_M → Prop) (hr4 : ∀ (x1 : Int32) (x2 : Int32) (x3 : Int32), okr4 x1 x2 x3 M → ps_G (pm_Y E) X (rec4 x1 x2 x3 M, M) 4 [(0, .ref (ps_ad E 0)), (1, .int x1), (2, .int x2), (3, .int x3)] [] M) (x1 : Int32) (x3 : Int32) (s1 : Int32) (s0 : Int32) (hk : ok_X6_aheadOf_75 rec4 okr4 x1 x3 s1 s0 M) : ps_G (pm_Y E) X (fv_X6_aheadOf_75 rec4 x1 x3 s1 s0 M, M) 75 [(0, .ref (ps_ad E 0)), (1, .int x1), (3, .int x3)] [.int s1, .int s0] M := by
  unfold fv_X6_aheadOf_75
  unfold ok_X6_aheadOf_75 at hk
  refine gw_iadd C 76 dX6_aheadOf_75 rfl ?_
  refine gw_istore_n C 77 dX6_aheadOf_76 rfl [(0, .ref (ps_ad E 0)), (1, .int x1), (2, .int (s0 + s1)), (3, .int x3)] [1, 2, 0, 3] (by decide) rfl ?_
  refine gw_iinc C 80 dX6_aheadOf_77 rfl (y := 1) (by decide) rfl 3 rfl [(0, .ref (ps_ad E 0)), (1, .int x1), (2, .int (s0 + s1)), (3, .int (x3 + (1 : Int32)))] [1, 2, 3, 0] (by decide) rfl ?_
  refine gw_goto C 4 dX6_aheadOf_80 (by decide) ?_
  exact hr4 x1 (s0 + s1) (x3 + (1 : Int32)) hk
def fv_X6_aheadOf_74 (rec4 : Int32 → Int32 → Int32 → ps_M → Int32) (x1 : Int32) (x3 : Int32) (s0 : Int32) (M : ps_M) : Int32 := fv_X6_aheadOf_75 rec4 x1 x3 (0 : Int32) s0 M
def ok_X6_aheadOf_74 (rec4 : Int32 → Int32 → Int32 → ps_M → Int32) (okr4 : Int32 → Int32 → Int32 → ps_M → Prop) (x1 : Int32) (x3 : Int32) (s0 : Int32) (M : ps_M) : Prop := ok_X6_aheadOf_75 rec4 okr4 x1 x3 (0 : Int32) s0 M
set_option maxRecDepth 100000 in
set_option maxHeartbeats 4000000 in
theorem bw_X6_aheadOf_74 {E : ps_E} {X : ps_X (Int32 × ps_M)} (C : ps_C (pm_Y E) X cX6_aheadOf RX6 (some .int) 2 43 6) (RT : ps_RI (pm_Y E) X cX6_aheadOf .int) (M : ps_M) (rec4 : Int32 → Int32 → Int32 → ps_M → Int32) (okr4 : Int32 → Int32 → Int32 → ps_M → Prop) (hr4 : ∀ (x1 : Int32) (x2 : Int32) (x3 : Int32), okr4 x1 x2 x3 M → ps_G (pm_Y E) X (rec4 x1 x2 x3 M, M) 4 [(0, .ref (ps_ad E 0)), (1, .int x1), (2, .int x2), (3, .int x3)] [] M) (x1 : Int32) (x3 : Int32) (s0 : Int32) (hk : ok_X6_aheadOf_74 rec4 okr4 x1 x3 s0 M) : ps_G (pm_Y E) X (fv_X6_aheadOf_74 rec4 x1 x3 s0 M, M) 74 [(0, .ref (ps_ad E 0)), (1, .int x1), (3, .int x3)] [.int s0] M := by
  unfold fv_X6_aheadOf_74
  unfold ok_X6_aheadOf_74 at hk
  refine gw_iconst C 75 dX6_aheadOf_74 (v := 0) (by decide) rfl ?_
  exact bw_X6_aheadOf_75 C RT M _ _ hr4 x1 x3 (0 : Int32) s0 hk
def fv_X6_aheadOf_54 (rec4 : Int32 → Int32 → Int32 → ps_M → Int32) (x1 : Int32) (x2 : Int32) (x3 : Int32) (s0 : Int32) (M : ps_M) : Int32 := if (fv_X6_isFree x3 M) = 0 then (fv_X6_aheadOf_74 rec4 x1 x3 x2 M) else (if s0 = 0 then (fv_X6_aheadOf_74 rec4 x1 x3 x2 M) else (fv_X6_aheadOf_75 rec4 x1 x3 (1 : Int32) x2 M))
def ok_X6_aheadOf_54 (rec4 : Int32 → Int32 → Int32 → ps_M → Int32) (okr4 : Int32 → Int32 → Int32 → ps_M → Prop) (x1 : Int32) (x2 : Int32) (x3 : Int32) (s0 : Int32) (M : ps_M) : Prop := (ok_X6_isFree x3 M) ∧ (((fv_X6_isFree x3 M) = 0 → (ok_X6_aheadOf_74 rec4 okr4 x1 x3 x2 M)) ∧ (¬ ((fv_X6_isFree x3 M) = 0) → ((s0 = 0 → (ok_X6_aheadOf_74 rec4 okr4 x1 x3 x2 M)) ∧ (¬ (s0 = 0) → (ok_X6_aheadOf_75 rec4 okr4 x1 x3 (1 : Int32) x2 M)))))
set_option maxRecDepth 100000 in
set_option maxHeartbeats 4000000 in
theorem bw_X6_aheadOf_54 {E : ps_E} {X : ps_X (Int32 × ps_M)} (C : ps_C (pm_Y E) X cX6_aheadOf RX6 (some .int) 2 43 6) (RT : ps_RI (pm_Y E) X cX6_aheadOf .int) (M : ps_M) (rec4 : Int32 → Int32 → Int32 → ps_M → Int32) (okr4 : Int32 → Int32 → Int32 → ps_M → Prop) (hr4 : ∀ (x1 : Int32) (x2 : Int32) (x3 : Int32), okr4 x1 x2 x3 M → ps_G (pm_Y E) X (rec4 x1 x2 x3 M, M) 4 [(0, .ref (ps_ad E 0)), (1, .int x1), (2, .int x2), (3, .int x3)] [] M) (x1 : Int32) (x2 : Int32) (x3 : Int32) (s0 : Int32) (hk : ok_X6_aheadOf_54 rec4 okr4 x1 x2 x3 s0 M) : ps_G (pm_Y E) X (fv_X6_aheadOf_54 rec4 x1 x2 x3 s0 M, M) 54 [(0, .ref (ps_ad E 0)), (1, .int x1), (2, .int x2), (3, .int x3)] [.int s0] M := by
  unfold fv_X6_aheadOf_54
  unfold ok_X6_aheadOf_54 at hk
  refine gw_istore C 56 dX6_aheadOf_54 rfl [(0, .ref (ps_ad E 0)), (1, .int x1), (2, .int x2), (3, .int x3), (5, .int s0)] [1, 2, 3, 4, 0] (by decide) rfl ?_
  refine gw_iload_n C 57 dX6_aheadOf_56 2 rfl rfl ?_
  refine gw_aload_n C 58 dX6_aheadOf_57 0 rfl rfl ?_
  refine gw_iload_n C 59 dX6_aheadOf_58 3 rfl rfl ?_
  refine gw_cVp C 62 dX6_aheadOf_59 rfl yv_X6_isFree lk_X6_61 [.int x3] [.int x2] rfl (ct_X6_isFree (E := E) (l := ps_l X) x3 M hk.1) pm_recv rfl (Nat.le_of_ble_eq_true rfl) (Nat.le_of_ble_eq_true rfl) (Nat.le_of_ble_eq_true rfl) ?_
  refine gw_if_eqP C 74 65 dX6_aheadOf_62 (by decide) rfl (fun c62 => ?_) (fun c62 => ?_)
  · refine gw_sub C [(0, .ref (ps_ad E 0)), (1, .int x1), (3, .int x3)] [0, 1, 3] rfl ?_
    exact bw_X6_aheadOf_74 C RT M _ _ hr4 x1 x3 x2 (hk.2.1 c62)
  · refine gw_iload C 67 dX6_aheadOf_65 4 rfl rfl ?_
    refine gw_if_eqP C 74 70 dX6_aheadOf_67 (by decide) rfl (fun c67 => ?_) (fun c67 => ?_)
    · refine gw_sub C [(0, .ref (ps_ad E 0)), (1, .int x1), (3, .int x3)] [0, 1, 3] rfl ?_
      exact bw_X6_aheadOf_74 C RT M _ _ hr4 x1 x3 x2 ((hk.2.2 c62).1 c67)
    · refine gw_iconst C 71 dX6_aheadOf_70 (v := 1) (by decide) rfl ?_
      refine gw_goto C 75 dX6_aheadOf_71 (by decide) ?_
      refine gw_sub C [(0, .ref (ps_ad E 0)), (1, .int x1), (3, .int x3)] [0, 1, 3] rfl ?_
      exact bw_X6_aheadOf_75 C RT M _ _ hr4 x1 x3 (1 : Int32) x2 ((hk.2.2 c62).2 c67)
def fv_X6_aheadOf_49 (rec4 : Int32 → Int32 → Int32 → ps_M → Int32) (x1 : Int32) (x2 : Int32) (x3 : Int32) (M : ps_M) : Int32 := fv_X6_aheadOf_54 rec4 x1 x2 x3 (1 : Int32) M
def ok_X6_aheadOf_49 (rec4 : Int32 → Int32 → Int32 → ps_M → Int32) (okr4 : Int32 → Int32 → Int32 → ps_M → Prop) (x1 : Int32) (x2 : Int32) (x3 : Int32) (M : ps_M) : Prop := ok_X6_aheadOf_54 rec4 okr4 x1 x2 x3 (1 : Int32) M
set_option maxRecDepth 100000 in
set_option maxHeartbeats 4000000 in
theorem bw_X6_aheadOf_49 {E : ps_E} {X : ps_X (Int32 × ps_M)} (C : ps_C (pm_Y E) X cX6_aheadOf RX6 (some .int) 2 43 6) (RT : ps_RI (pm_Y E) X cX6_aheadOf .int) (M : ps_M) (rec4 : Int32 → Int32 → Int32 → ps_M → Int32) (okr4 : Int32 → Int32 → Int32 → ps_M → Prop) (hr4 : ∀ (x1 : Int32) (x2 : Int32) (x3 : Int32), okr4 x1 x2 x3 M → ps_G (pm_Y E) X (rec4 x1 x2 x3 M, M) 4 [(0, .ref (ps_ad E 0)), (1, .int x1), (2, .int x2), (3, .int x3)] [] M) (x1 : Int32) (x2 : Int32) (x3 : Int32) (hk : ok_X6_aheadOf_49 rec4 okr4 x1 x2 x3 M) : ps_G (pm_Y E) X (fv_X6_aheadOf_49 rec4 x1 x2 x3 M, M) 49 [(0, .ref (ps_ad E 0)), (1, .int x1), (2, .int x2), (3, .int x3)] [] M := by
  unfold fv_X6_aheadOf_49
  unfold ok_X6_aheadOf_49 at hk
  refine gw_iconst C 50 dX6_aheadOf_49 (v := 1) (by decide) rfl ?_
  refine gw_goto C 54 dX6_aheadOf_50 (by decide) ?_
  exact bw_X6_aheadOf_54 C RT M _ _ hr4 x1 x2 x3 (1 : Int32) hk
def fv_X6_aheadOf_53 (rec4 : Int32 → Int32 → Int32 → ps_M → Int32) (x1 : Int32) (x2 : Int32) (x3 : Int32) (M : ps_M) : Int32 := fv_X6_aheadOf_54 rec4 x1 x2 x3 (0 : Int32) M
def ok_X6_aheadOf_53 (rec4 : Int32 → Int32 → Int32 → ps_M → Int32) (okr4 : Int32 → Int32 → Int32 → ps_M → Prop) (x1 : Int32) (x2 : Int32) (x3 : Int32) (M : ps_M) : Prop := ok_X6_aheadOf_54 rec4 okr4 x1 x2 x3 (0 : Int32) M
set_option maxRecDepth 100000 in
set_option maxHeartbeats 4000000 in
theorem bw_X6_aheadOf_53 {E : ps_E} {X : ps_X (Int32 × ps_M)} (C : ps_C (pm_Y E) X cX6_aheadOf RX6 (some .int) 2 43 6) (RT : ps_RI (pm_Y E) X cX6_aheadOf .int) (M : ps_M) (rec4 : Int32 → Int32 → Int32 → ps_M → Int32) (okr4 : Int32 → Int32 → Int32 → ps_M → Prop) (hr4 : ∀ (x1 : Int32) (x2 : Int32) (x3 : Int32), okr4 x1 x2 x3 M → ps_G (pm_Y E) X (rec4 x1 x2 x3 M, M) 4 [(0, .ref (ps_ad E 0)), (1, .int x1), (2, .int x2), (3, .int x3)] [] M) (x1 : Int32) (x2 : Int32) (x3 : Int32) (hk : ok_X6_aheadOf_53 rec4 okr4 x1 x2 x3 M) : ps_G (pm_Y E) X (fv_X6_aheadOf_53 rec4 x1 x2 x3 M, M) 53 [(0, .ref (ps_ad E 0)), (1, .int x1), (2, .int x2), (3, .int x3)] [] M := by
  unfold fv_X6_aheadOf_53
  unfold ok_X6_aheadOf_53 at hk
  refine gw_iconst C 54 dX6_aheadOf_53 (v := 0) (by decide) rfl ?_
  exact bw_X6_aheadOf_54 C RT M _ _ hr4 x1 x2 x3 (0 : Int32) hk
def fv_X6_aheadOf_4 : Nat → Int32 → Int32 → Int32 → ps_M → Int32
  | 0, _, _, _, M => 0
  | n + 1, x1, x2, x3, M => if (M 1 ((2 : Int32)).toNatClampNeg) ≤ x3 then x2 else (if (fv_X6_ofClerk x3 (4 : Int32) M) < (fv_X6_ofClerk x1 (4 : Int32) M) then (fv_X6_aheadOf_49 (fun a1 a2 a3 M => fv_X6_aheadOf_4 n a1 a2 a3 M) x1 x2 x3 M) else (if (fv_X6_ofClerk x3 (4 : Int32) M) = (fv_X6_ofClerk x1 (4 : Int32) M) then (if x1 ≤ x3 then (fv_X6_aheadOf_53 (fun a1 a2 a3 M => fv_X6_aheadOf_4 n a1 a2 a3 M) x1 x2 x3 M) else (fv_X6_aheadOf_49 (fun a1 a2 a3 M => fv_X6_aheadOf_4 n a1 a2 a3 M) x1 x2 x3 M)) else (fv_X6_aheadOf_53 (fun a1 a2 a3 M => fv_X6_aheadOf_4 n a1 a2 a3 M) x1 x2 x3 M)))
theorem fv_X6_aheadOf_4_s (n : Nat) (x1 : Int32) (x2 : Int32) (x3 : Int32) (M : ps_M) : fv_X6_aheadOf_4 (n + 1) x1 x2 x3 M = (if (M 1 ((2 : Int32)).toNatClampNeg) ≤ x3 then x2 else (if (fv_X6_ofClerk x3 (4 : Int32) M) < (fv_X6_ofClerk x1 (4 : Int32) M) then (fv_X6_aheadOf_49 (fun a1 a2 a3 M => fv_X6_aheadOf_4 n a1 a2 a3 M) x1 x2 x3 M) else (if (fv_X6_ofClerk x3 (4 : Int32) M) = (fv_X6_ofClerk x1 (4 : Int32) M) then (if x1 ≤ x3 then (fv_X6_aheadOf_53 (fun a1 a2 a3 M => fv_X6_aheadOf_4 n a1 a2 a3 M) x1 x2 x3 M) else (fv_X6_aheadOf_49 (fun a1 a2 a3 M => fv_X6_aheadOf_4 n a1 a2 a3 M) x1 x2 x3 M)) else (fv_X6_aheadOf_53 (fun a1 a2 a3 M => fv_X6_aheadOf_4 n a1 a2 a3 M) x1 x2 x3 M)))) := rfl
def ok_X6_aheadOf_4 : Nat → Int32 → Int32 → Int32 → ps_M → Prop
  | 0, _, _, _, _ => False
  | n + 1, x1, x2, x3, M => (vp_in (2 : Int32) 237) ∧ (((M 1 ((2 : Int32)).toNatClampNeg) ≤ x3 → True) ∧ (¬ ((M 1 ((2 : Int32)).toNatClampNeg) ≤ x3) → ((ok_X6_ofClerk x3 (4 : Int32) M) ∧ ((ok_X6_ofClerk x1 (4 : Int32) M) ∧ (((fv_X6_ofClerk x3 (4 : Int32) M) < (fv_X6_ofClerk x1 (4 : Int32) M) → (ok_X6_aheadOf_49 (fun a1 a2 a3 M => fv_X6_aheadOf_4 n a1 a2 a3 M) (fun a1 a2 a3 M => ok_X6_aheadOf_4 n a1 a2 a3 M) x1 x2 x3 M)) ∧ (¬ ((fv_X6_ofClerk x3 (4 : Int32) M) < (fv_X6_ofClerk x1 (4 : Int32) M)) → ((ok_X6_ofClerk x1 (4 : Int32) M) ∧ (((fv_X6_ofClerk x3 (4 : Int32) M) = (fv_X6_ofClerk x1 (4 : Int32) M) → ((x1 ≤ x3 → (ok_X6_aheadOf_53 (fun a1 a2 a3 M => fv_X6_aheadOf_4 n a1 a2 a3 M) (fun a1 a2 a3 M => ok_X6_aheadOf_4 n a1 a2 a3 M) x1 x2 x3 M)) ∧ (¬ (x1 ≤ x3) → (ok_X6_aheadOf_49 (fun a1 a2 a3 M => fv_X6_aheadOf_4 n a1 a2 a3 M) (fun a1 a2 a3 M => ok_X6_aheadOf_4 n a1 a2 a3 M) x1 x2 x3 M)))) ∧ (¬ ((fv_X6_ofClerk x3 (4 : Int32) M) = (fv_X6_ofClerk x1 (4 : Int32) M)) → (ok_X6_aheadOf_53 (fun a1 a2 a3 M => fv_X6_aheadOf_4 n a1 a2 a3 M) (fun a1 a2 a3 M => ok_X6_aheadOf_4 n a1 a2 a3 M) x1 x2 x3 M))))))))))
theorem ok_X6_aheadOf_4_s (n : Nat) (x1 : Int32) (x2 : Int32) (x3 : Int32) (M : ps_M) : ok_X6_aheadOf_4 (n + 1) x1 x2 x3 M = ((vp_in (2 : Int32) 237) ∧ (((M 1 ((2 : Int32)).toNatClampNeg) ≤ x3 → True) ∧ (¬ ((M 1 ((2 : Int32)).toNatClampNeg) ≤ x3) → ((ok_X6_ofClerk x3 (4 : Int32) M) ∧ ((ok_X6_ofClerk x1 (4 : Int32) M) ∧ (((fv_X6_ofClerk x3 (4 : Int32) M) < (fv_X6_ofClerk x1 (4 : Int32) M) → (ok_X6_aheadOf_49 (fun a1 a2 a3 M => fv_X6_aheadOf_4 n a1 a2 a3 M) (fun a1 a2 a3 M => ok_X6_aheadOf_4 n a1 a2 a3 M) x1 x2 x3 M)) ∧ (¬ ((fv_X6_ofClerk x3 (4 : Int32) M) < (fv_X6_ofClerk x1 (4 : Int32) M)) → ((ok_X6_ofClerk x1 (4 : Int32) M) ∧ (((fv_X6_ofClerk x3 (4 : Int32) M) = (fv_X6_ofClerk x1 (4 : Int32) M) → ((x1 ≤ x3 → (ok_X6_aheadOf_53 (fun a1 a2 a3 M => fv_X6_aheadOf_4 n a1 a2 a3 M) (fun a1 a2 a3 M => ok_X6_aheadOf_4 n a1 a2 a3 M) x1 x2 x3 M)) ∧ (¬ (x1 ≤ x3) → (ok_X6_aheadOf_49 (fun a1 a2 a3 M => fv_X6_aheadOf_4 n a1 a2 a3 M) (fun a1 a2 a3 M => ok_X6_aheadOf_4 n a1 a2 a3 M) x1 x2 x3 M)))) ∧ (¬ ((fv_X6_ofClerk x3 (4 : Int32) M) = (fv_X6_ofClerk x1 (4 : Int32) M)) → (ok_X6_aheadOf_53 (fun a1 a2 a3 M => fv_X6_aheadOf_4 n a1 a2 a3 M) (fun a1 a2 a3 M => ok_X6_aheadOf_4 n a1 a2 a3 M) x1 x2 x3 M))))))))))) := rfl
set_option maxRecDepth 100000 in
set_option maxHeartbeats 4000000 in
theorem bw_X6_aheadOf_4 {E : ps_E} {X : ps_X (Int32 × ps_M)} (C : ps_C (pm_Y E) X cX6_aheadOf RX6 (some .int) 2 43 6) (RT : ps_RI (pm_Y E) X cX6_aheadOf .int) (M : ps_M) : ∀ (n : Nat) (x1 : Int32) (x2 : Int32) (x3 : Int32), ok_X6_aheadOf_4 n x1 x2 x3 M → ps_G (pm_Y E) X (fv_X6_aheadOf_4 n x1 x2 x3 M, M) 4 [(0, .ref (ps_ad E 0)), (1, .int x1), (2, .int x2), (3, .int x3)] [] M := by
  intro n
  induction n with
  | zero => intro x1 x2 x3 h; exact h.elim
  | succ n ih =>
    intro x1 x2 x3 hk
    rw [fv_X6_aheadOf_4_s]
    rw [ok_X6_aheadOf_4_s] at hk
    refine gw_iload_n C 5 dX6_aheadOf_4 3 rfl rfl ?_
    refine gw_aload_n C 6 dX6_aheadOf_5 0 rfl rfl ?_
    refine gf_X6_7 C 9 dX6_aheadOf_6 rfl ?_
    refine gw_iconst C 10 dX6_aheadOf_9 (v := 2) (by decide) rfl ?_
    refine gm_ld C 11 dX6_aheadOf_10 rfl (by decide) hk.1 ?_
    refine gw_ic_geP C 83 14 dX6_aheadOf_11 (by decide) rfl (fun c11 => ?_) (fun c11 => ?_)
    · refine gw_iload_n C 84 dX6_aheadOf_83 2 rfl rfl ?_
      exact RT _ _ _ _ dX6_aheadOf_84 rfl
    · refine gw_aload_n C 15 dX6_aheadOf_14 0 rfl rfl ?_
      refine gw_iload_n C 16 dX6_aheadOf_15 3 rfl rfl ?_
      refine gw_iconst C 17 dX6_aheadOf_16 (v := 4) (by decide) rfl ?_
      refine gw_cVp C 20 dX6_aheadOf_17 rfl yv_X6_ofClerk lk_X6_58 [.int x3, .int (4 : Int32)] [] rfl (ct_X6_ofClerk (E := E) (l := ps_l X) x3 (4 : Int32) M (hk.2.2 c11).1) pm_recv rfl (Nat.le_of_ble_eq_true rfl) (Nat.le_of_ble_eq_true rfl) (Nat.le_of_ble_eq_true rfl) ?_
      refine gw_istore C 22 dX6_aheadOf_20 rfl [(0, .ref (ps_ad E 0)), (1, .int x1), (2, .int x2), (3, .int x3), (4, .int (fv_X6_ofClerk x3 (4 : Int32) M))] [1, 2, 3, 4, 0] (by decide) rfl ?_
      refine gw_iload C 24 dX6_aheadOf_22 4 rfl rfl ?_
      refine gw_aload_n C 25 dX6_aheadOf_24 0 rfl rfl ?_
      refine gw_iload_n C 26 dX6_aheadOf_25 1 rfl rfl ?_
      refine gw_iconst C 27 dX6_aheadOf_26 (v := 4) (by decide) rfl ?_
      refine gw_cVp C 30 dX6_aheadOf_27 rfl yv_X6_ofClerk lk_X6_58 [.int x1, .int (4 : Int32)] [.int (fv_X6_ofClerk x3 (4 : Int32) M)] rfl (ct_X6_ofClerk (E := E) (l := ps_l X) x1 (4 : Int32) M (hk.2.2 c11).2.1) pm_recv rfl (Nat.le_of_ble_eq_true rfl) (Nat.le_of_ble_eq_true rfl) (Nat.le_of_ble_eq_true rfl) ?_
      refine gw_ic_ltP C 49 33 dX6_aheadOf_30 (by decide) rfl (fun c30 => ?_) (fun c30 => ?_)
      · refine gw_sub C [(0, .ref (ps_ad E 0)), (1, .int x1), (2, .int x2), (3, .int x3)] [0, 1, 2, 3] rfl ?_
        exact bw_X6_aheadOf_49 C RT M _ _ (fun a1 a2 a3  h => ih a1 a2 a3  h) x1 x2 x3 ((hk.2.2 c11).2.2.1 c30)
      · refine gw_iload C 35 dX6_aheadOf_33 4 rfl rfl ?_
        refine gw_aload_n C 36 dX6_aheadOf_35 0 rfl rfl ?_
        refine gw_iload_n C 37 dX6_aheadOf_36 1 rfl rfl ?_
        refine gw_iconst C 38 dX6_aheadOf_37 (v := 4) (by decide) rfl ?_
        refine gw_cVp C 41 dX6_aheadOf_38 rfl yv_X6_ofClerk lk_X6_58 [.int x1, .int (4 : Int32)] [.int (fv_X6_ofClerk x3 (4 : Int32) M)] rfl (ct_X6_ofClerk (E := E) (l := ps_l X) x1 (4 : Int32) M ((hk.2.2 c11).2.2.2 c30).1) pm_recv rfl (Nat.le_of_ble_eq_true rfl) (Nat.le_of_ble_eq_true rfl) (Nat.le_of_ble_eq_true rfl) ?_
        refine gw_ic_neP C 53 44 dX6_aheadOf_41 (by decide) rfl (fun c41 => ?_) (fun c41 => ?_)
        · refine gw_iload_n C 45 dX6_aheadOf_44 3 rfl rfl ?_
          refine gw_iload_n C 46 dX6_aheadOf_45 1 rfl rfl ?_
          refine gw_ic_geP C 53 49 dX6_aheadOf_46 (by decide) rfl (fun c46 => ?_) (fun c46 => ?_)
          · refine gw_sub C [(0, .ref (ps_ad E 0)), (1, .int x1), (2, .int x2), (3, .int x3)] [0, 1, 2, 3] rfl ?_
            exact bw_X6_aheadOf_53 C RT M _ _ (fun a1 a2 a3  h => ih a1 a2 a3  h) x1 x2 x3 ((((hk.2.2 c11).2.2.2 c30).2.1 c41).1 c46)
          · refine gw_sub C [(0, .ref (ps_ad E 0)), (1, .int x1), (2, .int x2), (3, .int x3)] [0, 1, 2, 3] rfl ?_
            exact bw_X6_aheadOf_49 C RT M _ _ (fun a1 a2 a3  h => ih a1 a2 a3  h) x1 x2 x3 ((((hk.2.2 c11).2.2.2 c30).2.1 c41).2 c46)
        · refine gw_sub C [(0, .ref (ps_ad E 0)), (1, .int x1), (2, .int x2), (3, .int x3)] [0, 1, 2, 3] rfl ?_
          exact bw_X6_aheadOf_53 C RT M _ _ (fun a1 a2 a3  h => ih a1 a2 a3  h) x1 x2 x3 (((hk.2.2 c11).2.2.2 c30).2.2 c41)
def fv_X6_aheadOf (x1 : Int32) (M : ps_M) : Int32 := fv_X6_aheadOf_4 ps_FU x1 (0 : Int32) (0 : Int32) M
def ok_X6_aheadOf (x1 : Int32) (M : ps_M) : Prop := ok_X6_aheadOf_4 ps_FU x1 (0 : Int32) (0 : Int32) M
set_option maxRecDepth 100000 in
set_option maxHeartbeats 4000000 in
theorem bw_X6_aheadOf {E : ps_E} {X : ps_X (Int32 × ps_M)} (C : ps_C (pm_Y E) X cX6_aheadOf RX6 (some .int) 2 43 6) (RT : ps_RI (pm_Y E) X cX6_aheadOf .int) (M : ps_M) (x1 : Int32) (hk : ok_X6_aheadOf x1 M) : ps_G (pm_Y E) X (fv_X6_aheadOf x1 M, M) 0 [(0, .ref (ps_ad E 0)), (1, .int x1)] [] M := by
  unfold fv_X6_aheadOf
  unfold ok_X6_aheadOf at hk
  refine gw_iconst C 1 dX6_aheadOf_0 (v := 0) (by decide) rfl ?_
  refine gw_istore_n C 2 dX6_aheadOf_1 rfl [(0, .ref (ps_ad E 0)), (1, .int x1), (2, .int (0 : Int32))] [1, 2, 0] (by decide) rfl ?_
  refine gw_iconst C 3 dX6_aheadOf_2 (v := 0) (by decide) rfl ?_
  refine gw_istore_n C 4 dX6_aheadOf_3 rfl [(0, .ref (ps_ad E 0)), (1, .int x1), (2, .int (0 : Int32)), (3, .int (0 : Int32))] [1, 2, 3, 0] (by decide) rfl ?_
  exact bw_X6_aheadOf_4 C RT M  ps_FU x1 (0 : Int32) (0 : Int32) hk
theorem ct_X6_aheadOf {E : ps_E} {l : Launch} (x1 : Int32)  (M : ps_M) (hk : ok_X6_aheadOf x1 M) : ps_CI (pm_Y E) l yX6_aheadOf cX6_aheadOf 6 (some .int) 2 43 [.ref (ps_ad E 0), .int x1] M (fv_X6_aheadOf x1 M, M) := ps_metI RX6 (by decide) rfl (Nat.le_of_ble_eq_true rfl) rfl (fun X _ C RT => bw_X6_aheadOf C RT M x1 hk)
def fv_X6_freeAt_2 : Nat → Int32 → Int32 → ps_M → Int32
  | 0, _, _, M => 0
  | n + 1, x1, x2, M => if (M 1 ((2 : Int32)).toNatClampNeg) ≤ x2 then ((-5 : Int32)) else (if (fv_X6_isFree x2 M) = 0 then (fv_X6_freeAt_2 n x1 (x2 + (1 : Int32)) M) else (if (fv_X6_aheadOf x2 M) = x1 then x2 else (fv_X6_freeAt_2 n x1 (x2 + (1 : Int32)) M)))
theorem fv_X6_freeAt_2_s (n : Nat) (x1 : Int32) (x2 : Int32) (M : ps_M) : fv_X6_freeAt_2 (n + 1) x1 x2 M = (if (M 1 ((2 : Int32)).toNatClampNeg) ≤ x2 then ((-5 : Int32)) else (if (fv_X6_isFree x2 M) = 0 then (fv_X6_freeAt_2 n x1 (x2 + (1 : Int32)) M) else (if (fv_X6_aheadOf x2 M) = x1 then x2 else (fv_X6_freeAt_2 n x1 (x2 + (1 : Int32)) M)))) := rfl
def ok_X6_freeAt_2 : Nat → Int32 → Int32 → ps_M → Prop
  | 0, _, _, _ => False
  | n + 1, x1, x2, M => (vp_in (2 : Int32) 237) ∧ (((M 1 ((2 : Int32)).toNatClampNeg) ≤ x2 → True) ∧ (¬ ((M 1 ((2 : Int32)).toNatClampNeg) ≤ x2) → ((ok_X6_isFree x2 M) ∧ (((fv_X6_isFree x2 M) = 0 → (ok_X6_freeAt_2 n x1 (x2 + (1 : Int32)) M)) ∧ (¬ ((fv_X6_isFree x2 M) = 0) → ((ok_X6_aheadOf x2 M) ∧ (((fv_X6_aheadOf x2 M) = x1 → True) ∧ (¬ ((fv_X6_aheadOf x2 M) = x1) → (ok_X6_freeAt_2 n x1 (x2 + (1 : Int32)) M)))))))))
theorem ok_X6_freeAt_2_s (n : Nat) (x1 : Int32) (x2 : Int32) (M : ps_M) : ok_X6_freeAt_2 (n + 1) x1 x2 M = ((vp_in (2 : Int32) 237) ∧ (((M 1 ((2 : Int32)).toNatClampNeg) ≤ x2 → True) ∧ (¬ ((M 1 ((2 : Int32)).toNatClampNeg) ≤ x2) → ((ok_X6_isFree x2 M) ∧ (((fv_X6_isFree x2 M) = 0 → (ok_X6_freeAt_2 n x1 (x2 + (1 : Int32)) M)) ∧ (¬ ((fv_X6_isFree x2 M) = 0) → ((ok_X6_aheadOf x2 M) ∧ (((fv_X6_aheadOf x2 M) = x1 → True) ∧ (¬ ((fv_X6_aheadOf x2 M) = x1) → (ok_X6_freeAt_2 n x1 (x2 + (1 : Int32)) M)))))))))) := rfl
set_option maxRecDepth 100000 in
set_option maxHeartbeats 4000000 in
theorem bw_X6_freeAt_2 {E : ps_E} {X : ps_X (Int32 × ps_M)} (C : ps_C (pm_Y E) X cX6_freeAt RX6 (some .int) 3 68 3) (RT : ps_RI (pm_Y E) X cX6_freeAt .int) (M : ps_M) : ∀ (n : Nat) (x1 : Int32) (x2 : Int32), ok_X6_freeAt_2 n x1 x2 M → ps_G (pm_Y E) X (fv_X6_freeAt_2 n x1 x2 M, M) 2 [(0, .ref (ps_ad E 0)), (1, .int x1), (2, .int x2)] [] M := by
  intro n
  induction n with
  | zero => intro x1 x2 h; exact h.elim
  | succ n ih =>
    intro x1 x2 hk
    rw [fv_X6_freeAt_2_s]
    rw [ok_X6_freeAt_2_s] at hk
    refine gw_iload_n C 3 dX6_freeAt_2 2 rfl rfl ?_
    refine gw_aload_n C 4 dX6_freeAt_3 0 rfl rfl ?_
    refine gf_X6_7 C 7 dX6_freeAt_4 rfl ?_
    refine gw_iconst C 8 dX6_freeAt_7 (v := 2) (by decide) rfl ?_
    refine gm_ld C 9 dX6_freeAt_8 rfl (by decide) hk.1 ?_
    refine gw_ic_geP C 37 12 dX6_freeAt_9 (by decide) rfl (fun c9 => ?_) (fun c9 => ?_)
    · refine gw_bipush C 39 dX6_freeAt_37 (v := (-5)) (by decide) rfl ?_
      exact RT _ _ _ _ dX6_freeAt_39 rfl
    · refine gw_aload_n C 13 dX6_freeAt_12 0 rfl rfl ?_
      refine gw_iload_n C 14 dX6_freeAt_13 2 rfl rfl ?_
      refine gw_cVp C 17 dX6_freeAt_14 rfl yv_X6_isFree lk_X6_61 [.int x2] [] rfl (ct_X6_isFree (E := E) (l := ps_l X) x2 M (hk.2.2 c9).1) pm_recv rfl (Nat.le_of_ble_eq_true rfl) (Nat.le_of_ble_eq_true rfl) (Nat.le_of_ble_eq_true rfl) ?_
      refine gw_if_eqP C 31 20 dX6_freeAt_17 (by decide) rfl (fun c17 => ?_) (fun c17 => ?_)
      · refine gw_iinc C 34 dX6_freeAt_31 rfl (y := 1) (by decide) rfl 2 rfl [(0, .ref (ps_ad E 0)), (1, .int x1), (2, .int (x2 + (1 : Int32)))] [1, 2, 0] (by decide) rfl ?_
        refine gw_goto C 2 dX6_freeAt_34 (by decide) ?_
        exact ih x1 (x2 + (1 : Int32)) ((hk.2.2 c9).2.1 c17)
      · refine gw_aload_n C 21 dX6_freeAt_20 0 rfl rfl ?_
        refine gw_iload_n C 22 dX6_freeAt_21 2 rfl rfl ?_
        refine gw_cVp C 25 dX6_freeAt_22 rfl yv_X6_aheadOf lk_X6_64 [.int x2] [] rfl (ct_X6_aheadOf (E := E) (l := ps_l X) x2 M ((hk.2.2 c9).2.2 c17).1) pm_recv rfl (Nat.le_of_ble_eq_true rfl) (Nat.le_of_ble_eq_true rfl) (Nat.le_of_ble_eq_true rfl) ?_
        refine gw_iload_n C 26 dX6_freeAt_25 1 rfl rfl ?_
        refine gw_ic_neP C 31 29 dX6_freeAt_26 (by decide) rfl (fun c26 => ?_) (fun c26 => ?_)
        · refine gw_iload_n C 30 dX6_freeAt_29 2 rfl rfl ?_
          exact RT _ _ _ _ dX6_freeAt_30 rfl
        · refine gw_iinc C 34 dX6_freeAt_31 rfl (y := 1) (by decide) rfl 2 rfl [(0, .ref (ps_ad E 0)), (1, .int x1), (2, .int (x2 + (1 : Int32)))] [1, 2, 0] (by decide) rfl ?_
          refine gw_goto C 2 dX6_freeAt_34 (by decide) ?_
          exact ih x1 (x2 + (1 : Int32)) (((hk.2.2 c9).2.2 c17).2.2 c26)
def fv_X6_freeAt (x1 : Int32) (M : ps_M) : Int32 := fv_X6_freeAt_2 ps_FU x1 (0 : Int32) M
def ok_X6_freeAt (x1 : Int32) (M : ps_M) : Prop := ok_X6_freeAt_2 ps_FU x1 (0 : Int32) M
set_option maxRecDepth 100000 in
set_option maxHeartbeats 4000000 in
theorem bw_X6_freeAt {E : ps_E} {X : ps_X (Int32 × ps_M)} (C : ps_C (pm_Y E) X cX6_freeAt RX6 (some .int) 3 68 3) (RT : ps_RI (pm_Y E) X cX6_freeAt .int) (M : ps_M) (x1 : Int32) (hk : ok_X6_freeAt x1 M) : ps_G (pm_Y E) X (fv_X6_freeAt x1 M, M) 0 [(0, .ref (ps_ad E 0)), (1, .int x1)] [] M := by
  unfold fv_X6_freeAt
  unfold ok_X6_freeAt at hk
  refine gw_iconst C 1 dX6_freeAt_0 (v := 0) (by decide) rfl ?_
  refine gw_istore_n C 2 dX6_freeAt_1 rfl [(0, .ref (ps_ad E 0)), (1, .int x1), (2, .int (0 : Int32))] [1, 2, 0] (by decide) rfl ?_
  exact bw_X6_freeAt_2 C RT M  ps_FU x1 (0 : Int32) hk
theorem ct_X6_freeAt {E : ps_E} {l : Launch} (x1 : Int32)  (M : ps_M) (hk : ok_X6_freeAt x1 M) : ps_CI (pm_Y E) l yX6_freeAt cX6_freeAt 3 (some .int) 3 68 [.ref (ps_ad E 0), .int x1] M (fv_X6_freeAt x1 M, M) := ps_metI RX6 (by decide) rfl (Nat.le_of_ble_eq_true rfl) rfl (fun X _ C RT => bw_X6_freeAt C RT M x1 hk)
def fv_X6_onDutyAt_30 (rec4 : Int32 → Int32 → Int32 → ps_M → Int32) (x1 : Int32) (x3 : Int32) (s1 : Int32) (s0 : Int32) (M : ps_M) : Int32 := rec4 x1 (s0 + s1) (x3 + (1 : Int32)) M
def ok_X6_onDutyAt_30 (rec4 : Int32 → Int32 → Int32 → ps_M → Int32) (okr4 : Int32 → Int32 → Int32 → ps_M → Prop) (x1 : Int32) (x3 : Int32) (s1 : Int32) (s0 : Int32) (M : ps_M) : Prop := okr4 x1 (s0 + s1) (x3 + (1 : Int32)) M
set_option maxRecDepth 100000 in
set_option maxHeartbeats 4000000 in
theorem bw_X6_onDutyAt_30 {E : ps_E} {X : ps_X (Int32 × ps_M)} (C : ps_C (pm_Y E) X cX6_onDutyAt RX6 (some .int) 1 22 4) (RT : ps_RI (pm_Y E) X cX6_onDutyAt .int) (M : ps_M) (rec4 : Int32 → Int32 → Int32 → ps_M → Int32) (okr4 : Int32 → Int32 → Int32 → ps_M → Prop) (hr4 : ∀ (x1 : Int32) (x2 : Int32) (x3 : Int32), okr4 x1 x2 x3 M → ps_G (pm_Y E) X (rec4 x1 x2 x3 M, M) 4 [(0, .ref (ps_ad E 0)), (1, .int x1), (2, .int x2), (3, .int x3)] [] M) (x1 : Int32) (x3 : Int32) (s1 : Int32) (s0 : Int32) (hk : ok_X6_onDutyAt_30 rec4 okr4 x1 x3 s1 s0 M) : ps_G (pm_Y E) X (fv_X6_onDutyAt_30 rec4 x1 x3 s1 s0 M, M) 30 [(0, .ref (ps_ad E 0)), (1, .int x1), (3, .int x3)] [.int s1, .int s0] M := by
  unfold fv_X6_onDutyAt_30
  unfold ok_X6_onDutyAt_30 at hk
  refine gw_iadd C 31 dX6_onDutyAt_30 rfl ?_
  refine gw_istore_n C 32 dX6_onDutyAt_31 rfl [(0, .ref (ps_ad E 0)), (1, .int x1), (2, .int (s0 + s1)), (3, .int x3)] [1, 2, 0, 3] (by decide) rfl ?_
  refine gw_iinc C 35 dX6_onDutyAt_32 rfl (y := 1) (by decide) rfl 3 rfl [(0, .ref (ps_ad E 0)), (1, .int x1), (2, .int (s0 + s1)), (3, .int (x3 + (1 : Int32)))] [1, 2, 3, 0] (by decide) rfl ?_
  refine gw_goto C 4 dX6_onDutyAt_35 (by decide) ?_
  exact hr4 x1 (s0 + s1) (x3 + (1 : Int32)) hk
def fv_X6_onDutyAt_4 : Nat → Int32 → Int32 → Int32 → ps_M → Int32
  | 0, _, _, _, M => 0
  | n + 1, x1, x2, x3, M => if (M 1 ((2 : Int32)).toNatClampNeg) ≤ x3 then x2 else (if (fv_X6_ofClerk x3 (2 : Int32) M) = x1 then (fv_X6_onDutyAt_30 (fun a1 a2 a3 M => fv_X6_onDutyAt_4 n a1 a2 a3 M) x1 x3 (1 : Int32) x2 M) else (fv_X6_onDutyAt_30 (fun a1 a2 a3 M => fv_X6_onDutyAt_4 n a1 a2 a3 M) x1 x3 (0 : Int32) x2 M))
theorem fv_X6_onDutyAt_4_s (n : Nat) (x1 : Int32) (x2 : Int32) (x3 : Int32) (M : ps_M) : fv_X6_onDutyAt_4 (n + 1) x1 x2 x3 M = (if (M 1 ((2 : Int32)).toNatClampNeg) ≤ x3 then x2 else (if (fv_X6_ofClerk x3 (2 : Int32) M) = x1 then (fv_X6_onDutyAt_30 (fun a1 a2 a3 M => fv_X6_onDutyAt_4 n a1 a2 a3 M) x1 x3 (1 : Int32) x2 M) else (fv_X6_onDutyAt_30 (fun a1 a2 a3 M => fv_X6_onDutyAt_4 n a1 a2 a3 M) x1 x3 (0 : Int32) x2 M))) := rfl
def ok_X6_onDutyAt_4 : Nat → Int32 → Int32 → Int32 → ps_M → Prop
  | 0, _, _, _, _ => False
  | n + 1, x1, x2, x3, M => (vp_in (2 : Int32) 237) ∧ (((M 1 ((2 : Int32)).toNatClampNeg) ≤ x3 → True) ∧ (¬ ((M 1 ((2 : Int32)).toNatClampNeg) ≤ x3) → ((ok_X6_ofClerk x3 (2 : Int32) M) ∧ (((fv_X6_ofClerk x3 (2 : Int32) M) = x1 → (ok_X6_onDutyAt_30 (fun a1 a2 a3 M => fv_X6_onDutyAt_4 n a1 a2 a3 M) (fun a1 a2 a3 M => ok_X6_onDutyAt_4 n a1 a2 a3 M) x1 x3 (1 : Int32) x2 M)) ∧ (¬ ((fv_X6_ofClerk x3 (2 : Int32) M) = x1) → (ok_X6_onDutyAt_30 (fun a1 a2 a3 M => fv_X6_onDutyAt_4 n a1 a2 a3 M) (fun a1 a2 a3 M => ok_X6_onDutyAt_4 n a1 a2 a3 M) x1 x3 (0 : Int32) x2 M))))))
theorem ok_X6_onDutyAt_4_s (n : Nat) (x1 : Int32) (x2 : Int32) (x3 : Int32) (M : ps_M) : ok_X6_onDutyAt_4 (n + 1) x1 x2 x3 M = ((vp_in (2 : Int32) 237) ∧ (((M 1 ((2 : Int32)).toNatClampNeg) ≤ x3 → True) ∧ (¬ ((M 1 ((2 : Int32)).toNatClampNeg) ≤ x3) → ((ok_X6_ofClerk x3 (2 : Int32) M) ∧ (((fv_X6_ofClerk x3 (2 : Int32) M) = x1 → (ok_X6_onDutyAt_30 (fun a1 a2 a3 M => fv_X6_onDutyAt_4 n a1 a2 a3 M) (fun a1 a2 a3 M => ok_X6_onDutyAt_4 n a1 a2 a3 M) x1 x3 (1 : Int32) x2 M)) ∧ (¬ ((fv_X6_ofClerk x3 (2 : Int32) M) = x1) → (ok_X6_onDutyAt_30 (fun a1 a2 a3 M => fv_X6_onDutyAt_4 n a1 a2 a3 M) (fun a1 a2 a3 M => ok_X6_onDutyAt_4 n a1 a2 a3 M) x1 x3 (0 : Int32) x2 M))))))) := rfl
set_option maxRecDepth 100000 in
set_option maxHeartbeats 4000000 in
theorem bw_X6_onDutyAt_4 {E : ps_E} {X : ps_X (Int32 × ps_M)} (C : ps_C (pm_Y E) X cX6_onDutyAt RX6 (some .int) 1 22 4) (RT : ps_RI (pm_Y E) X cX6_onDutyAt .int) (M : ps_M) : ∀ (n : Nat) (x1 : Int32) (x2 : Int32) (x3 : Int32), ok_X6_onDutyAt_4 n x1 x2 x3 M → ps_G (pm_Y E) X (fv_X6_onDutyAt_4 n x1 x2 x3 M, M) 4 [(0, .ref (ps_ad E 0)), (1, .int x1), (2, .int x2), (3, .int x3)] [] M := by
  intro n
  induction n with
  | zero => intro x1 x2 x3 h; exact h.elim
  | succ n ih =>
    intro x1 x2 x3 hk
    rw [fv_X6_onDutyAt_4_s]
    rw [ok_X6_onDutyAt_4_s] at hk
    refine gw_iload_n C 5 dX6_onDutyAt_4 3 rfl rfl ?_
    refine gw_aload_n C 6 dX6_onDutyAt_5 0 rfl rfl ?_
    refine gf_X6_7 C 9 dX6_onDutyAt_6 rfl ?_
    refine gw_iconst C 10 dX6_onDutyAt_9 (v := 2) (by decide) rfl ?_
    refine gm_ld C 11 dX6_onDutyAt_10 rfl (by decide) hk.1 ?_
    refine gw_ic_geP C 38 14 dX6_onDutyAt_11 (by decide) rfl (fun c11 => ?_) (fun c11 => ?_)
    · refine gw_iload_n C 39 dX6_onDutyAt_38 2 rfl rfl ?_
      exact RT _ _ _ _ dX6_onDutyAt_39 rfl
    · refine gw_iload_n C 15 dX6_onDutyAt_14 2 rfl rfl ?_
      refine gw_aload_n C 16 dX6_onDutyAt_15 0 rfl rfl ?_
      refine gw_iload_n C 17 dX6_onDutyAt_16 3 rfl rfl ?_
      refine gw_iconst C 18 dX6_onDutyAt_17 (v := 2) (by decide) rfl ?_
      refine gw_cVp C 21 dX6_onDutyAt_18 rfl yv_X6_ofClerk lk_X6_58 [.int x3, .int (2 : Int32)] [.int x2] rfl (ct_X6_ofClerk (E := E) (l := ps_l X) x3 (2 : Int32) M (hk.2.2 c11).1) pm_recv rfl (Nat.le_of_ble_eq_true rfl) (Nat.le_of_ble_eq_true rfl) (Nat.le_of_ble_eq_true rfl) ?_
      refine gw_iload_n C 22 dX6_onDutyAt_21 1 rfl rfl ?_
      refine gw_ic_neP C 29 25 dX6_onDutyAt_22 (by decide) rfl (fun c22 => ?_) (fun c22 => ?_)
      · refine gw_iconst C 26 dX6_onDutyAt_25 (v := 1) (by decide) rfl ?_
        refine gw_goto C 30 dX6_onDutyAt_26 (by decide) ?_
        refine gw_sub C [(0, .ref (ps_ad E 0)), (1, .int x1), (3, .int x3)] [0, 1, 3] rfl ?_
        exact bw_X6_onDutyAt_30 C RT M _ _ (fun a1 a2 a3  h => ih a1 a2 a3  h) x1 x3 (1 : Int32) x2 ((hk.2.2 c11).2.1 c22)
      · refine gw_iconst C 30 dX6_onDutyAt_29 (v := 0) (by decide) rfl ?_
        refine gw_sub C [(0, .ref (ps_ad E 0)), (1, .int x1), (3, .int x3)] [0, 1, 3] rfl ?_
        exact bw_X6_onDutyAt_30 C RT M _ _ (fun a1 a2 a3  h => ih a1 a2 a3  h) x1 x3 (0 : Int32) x2 ((hk.2.2 c11).2.2 c22)
def fv_X6_onDutyAt (x1 : Int32) (M : ps_M) : Int32 := fv_X6_onDutyAt_4 ps_FU x1 (0 : Int32) (0 : Int32) M
def ok_X6_onDutyAt (x1 : Int32) (M : ps_M) : Prop := ok_X6_onDutyAt_4 ps_FU x1 (0 : Int32) (0 : Int32) M
set_option maxRecDepth 100000 in
set_option maxHeartbeats 4000000 in
theorem bw_X6_onDutyAt {E : ps_E} {X : ps_X (Int32 × ps_M)} (C : ps_C (pm_Y E) X cX6_onDutyAt RX6 (some .int) 1 22 4) (RT : ps_RI (pm_Y E) X cX6_onDutyAt .int) (M : ps_M) (x1 : Int32) (hk : ok_X6_onDutyAt x1 M) : ps_G (pm_Y E) X (fv_X6_onDutyAt x1 M, M) 0 [(0, .ref (ps_ad E 0)), (1, .int x1)] [] M := by
  unfold fv_X6_onDutyAt
  unfold ok_X6_onDutyAt at hk
  refine gw_iconst C 1 dX6_onDutyAt_0 (v := 0) (by decide) rfl ?_
  refine gw_istore_n C 2 dX6_onDutyAt_1 rfl [(0, .ref (ps_ad E 0)), (1, .int x1), (2, .int (0 : Int32))] [1, 2, 0] (by decide) rfl ?_
  refine gw_iconst C 3 dX6_onDutyAt_2 (v := 0) (by decide) rfl ?_
  refine gw_istore_n C 4 dX6_onDutyAt_3 rfl [(0, .ref (ps_ad E 0)), (1, .int x1), (2, .int (0 : Int32)), (3, .int (0 : Int32))] [1, 2, 3, 0] (by decide) rfl ?_
  exact bw_X6_onDutyAt_4 C RT M  ps_FU x1 (0 : Int32) (0 : Int32) hk
theorem ct_X6_onDutyAt {E : ps_E} {l : Launch} (x1 : Int32)  (M : ps_M) (hk : ok_X6_onDutyAt x1 M) : ps_CI (pm_Y E) l yX6_onDutyAt cX6_onDutyAt 4 (some .int) 1 22 [.ref (ps_ad E 0), .int x1] M (fv_X6_onDutyAt x1 M, M) := ps_metI RX6 (by decide) rfl (Nat.le_of_ble_eq_true rfl) rfl (fun X _ C RT => bw_X6_onDutyAt C RT M x1 hk)
def fv_X6_serveAt_35 (rec4 : Int32 → Int32 → Int32 → ps_M → Int32) (x1 : Int32) (x3 : Int32) (s1 : Int32) (s0 : Int32) (M : ps_M) : Int32 := rec4 x1 (s0 + s1) (x3 + (1 : Int32)) M
def ok_X6_serveAt_35 (rec4 : Int32 → Int32 → Int32 → ps_M → Int32) (okr4 : Int32 → Int32 → Int32 → ps_M → Prop) (x1 : Int32) (x3 : Int32) (s1 : Int32) (s0 : Int32) (M : ps_M) : Prop := okr4 x1 (s0 + s1) (x3 + (1 : Int32)) M
set_option maxRecDepth 100000 in
set_option maxHeartbeats 4000000 in
theorem bw_X6_serveAt_35 {E : ps_E} {X : ps_X (Int32 × ps_M)} (C : ps_C (pm_Y E) X cX6_serveAt RX6 (some .int) 1 22 4) (RT : ps_RI (pm_Y E) X cX6_serveAt .int) (M : ps_M) (rec4 : Int32 → Int32 → Int32 → ps_M → Int32) (okr4 : Int32 → Int32 → Int32 → ps_M → Prop) (hr4 : ∀ (x1 : Int32) (x2 : Int32) (x3 : Int32), okr4 x1 x2 x3 M → ps_G (pm_Y E) X (rec4 x1 x2 x3 M, M) 4 [(0, .ref (ps_ad E 0)), (1, .int x1), (2, .int x2), (3, .int x3)] [] M) (x1 : Int32) (x3 : Int32) (s1 : Int32) (s0 : Int32) (hk : ok_X6_serveAt_35 rec4 okr4 x1 x3 s1 s0 M) : ps_G (pm_Y E) X (fv_X6_serveAt_35 rec4 x1 x3 s1 s0 M, M) 35 [(0, .ref (ps_ad E 0)), (1, .int x1), (3, .int x3)] [.int s1, .int s0] M := by
  unfold fv_X6_serveAt_35
  unfold ok_X6_serveAt_35 at hk
  refine gw_iadd C 36 dX6_serveAt_35 rfl ?_
  refine gw_istore_n C 37 dX6_serveAt_36 rfl [(0, .ref (ps_ad E 0)), (1, .int x1), (2, .int (s0 + s1)), (3, .int x3)] [1, 2, 0, 3] (by decide) rfl ?_
  refine gw_iinc C 40 dX6_serveAt_37 rfl (y := 1) (by decide) rfl 3 rfl [(0, .ref (ps_ad E 0)), (1, .int x1), (2, .int (s0 + s1)), (3, .int (x3 + (1 : Int32)))] [1, 2, 3, 0] (by decide) rfl ?_
  refine gw_goto C 4 dX6_serveAt_40 (by decide) ?_
  exact hr4 x1 (s0 + s1) (x3 + (1 : Int32)) hk
def fv_X6_serveAt_4 : Nat → Int32 → Int32 → Int32 → ps_M → Int32
  | 0, _, _, _, M => 0
  | n + 1, x1, x2, x3, M => if (M 1 ((2 : Int32)).toNatClampNeg) ≤ x3 then x2 else (if (fv_X6_ofClerk x3 (2 : Int32) M) = x1 then (fv_X6_serveAt_35 (fun a1 a2 a3 M => fv_X6_serveAt_4 n a1 a2 a3 M) x1 x3 (fv_X6_ofClerk x3 (0 : Int32) M) x2 M) else (fv_X6_serveAt_35 (fun a1 a2 a3 M => fv_X6_serveAt_4 n a1 a2 a3 M) x1 x3 (0 : Int32) x2 M))
theorem fv_X6_serveAt_4_s (n : Nat) (x1 : Int32) (x2 : Int32) (x3 : Int32) (M : ps_M) : fv_X6_serveAt_4 (n + 1) x1 x2 x3 M = (if (M 1 ((2 : Int32)).toNatClampNeg) ≤ x3 then x2 else (if (fv_X6_ofClerk x3 (2 : Int32) M) = x1 then (fv_X6_serveAt_35 (fun a1 a2 a3 M => fv_X6_serveAt_4 n a1 a2 a3 M) x1 x3 (fv_X6_ofClerk x3 (0 : Int32) M) x2 M) else (fv_X6_serveAt_35 (fun a1 a2 a3 M => fv_X6_serveAt_4 n a1 a2 a3 M) x1 x3 (0 : Int32) x2 M))) := rfl
def ok_X6_serveAt_4 : Nat → Int32 → Int32 → Int32 → ps_M → Prop
  | 0, _, _, _, _ => False
  | n + 1, x1, x2, x3, M => (vp_in (2 : Int32) 237) ∧ (((M 1 ((2 : Int32)).toNatClampNeg) ≤ x3 → True) ∧ (¬ ((M 1 ((2 : Int32)).toNatClampNeg) ≤ x3) → ((ok_X6_ofClerk x3 (2 : Int32) M) ∧ (((fv_X6_ofClerk x3 (2 : Int32) M) = x1 → ((ok_X6_ofClerk x3 (0 : Int32) M) ∧ (ok_X6_serveAt_35 (fun a1 a2 a3 M => fv_X6_serveAt_4 n a1 a2 a3 M) (fun a1 a2 a3 M => ok_X6_serveAt_4 n a1 a2 a3 M) x1 x3 (fv_X6_ofClerk x3 (0 : Int32) M) x2 M))) ∧ (¬ ((fv_X6_ofClerk x3 (2 : Int32) M) = x1) → (ok_X6_serveAt_35 (fun a1 a2 a3 M => fv_X6_serveAt_4 n a1 a2 a3 M) (fun a1 a2 a3 M => ok_X6_serveAt_4 n a1 a2 a3 M) x1 x3 (0 : Int32) x2 M))))))
theorem ok_X6_serveAt_4_s (n : Nat) (x1 : Int32) (x2 : Int32) (x3 : Int32) (M : ps_M) : ok_X6_serveAt_4 (n + 1) x1 x2 x3 M = ((vp_in (2 : Int32) 237) ∧ (((M 1 ((2 : Int32)).toNatClampNeg) ≤ x3 → True) ∧ (¬ ((M 1 ((2 : Int32)).toNatClampNeg) ≤ x3) → ((ok_X6_ofClerk x3 (2 : Int32) M) ∧ (((fv_X6_ofClerk x3 (2 : Int32) M) = x1 → ((ok_X6_ofClerk x3 (0 : Int32) M) ∧ (ok_X6_serveAt_35 (fun a1 a2 a3 M => fv_X6_serveAt_4 n a1 a2 a3 M) (fun a1 a2 a3 M => ok_X6_serveAt_4 n a1 a2 a3 M) x1 x3 (fv_X6_ofClerk x3 (0 : Int32) M) x2 M))) ∧ (¬ ((fv_X6_ofClerk x3 (2 : Int32) M) = x1) → (ok_X6_serveAt_35 (fun a1 a2 a3 M => fv_X6_serveAt_4 n a1 a2 a3 M) (fun a1 a2 a3 M => ok_X6_serveAt_4 n a1 a2 a3 M) x1 x3 (0 : Int32) x2 M))))))) := rfl
set_option maxRecDepth 100000 in
set_option maxHeartbeats 4000000 in
theorem bw_X6_serveAt_4 {E : ps_E} {X : ps_X (Int32 × ps_M)} (C : ps_C (pm_Y E) X cX6_serveAt RX6 (some .int) 1 22 4) (RT : ps_RI (pm_Y E) X cX6_serveAt .int) (M : ps_M) : ∀ (n : Nat) (x1 : Int32) (x2 : Int32) (x3 : Int32), ok_X6_serveAt_4 n x1 x2 x3 M → ps_G (pm_Y E) X (fv_X6_serveAt_4 n x1 x2 x3 M, M) 4 [(0, .ref (ps_ad E 0)), (1, .int x1), (2, .int x2), (3, .int x3)] [] M := by
  intro n
  induction n with
  | zero => intro x1 x2 x3 h; exact h.elim
  | succ n ih =>
    intro x1 x2 x3 hk
    rw [fv_X6_serveAt_4_s]
    rw [ok_X6_serveAt_4_s] at hk
    refine gw_iload_n C 5 dX6_serveAt_4 3 rfl rfl ?_
    refine gw_aload_n C 6 dX6_serveAt_5 0 rfl rfl ?_
    refine gf_X6_7 C 9 dX6_serveAt_6 rfl ?_
    refine gw_iconst C 10 dX6_serveAt_9 (v := 2) (by decide) rfl ?_
    refine gm_ld C 11 dX6_serveAt_10 rfl (by decide) hk.1 ?_
    refine gw_ic_geP C 43 14 dX6_serveAt_11 (by decide) rfl (fun c11 => ?_) (fun c11 => ?_)
    · refine gw_iload_n C 44 dX6_serveAt_43 2 rfl rfl ?_
      exact RT _ _ _ _ dX6_serveAt_44 rfl
    · refine gw_iload_n C 15 dX6_serveAt_14 2 rfl rfl ?_
      refine gw_aload_n C 16 dX6_serveAt_15 0 rfl rfl ?_
      refine gw_iload_n C 17 dX6_serveAt_16 3 rfl rfl ?_
      refine gw_iconst C 18 dX6_serveAt_17 (v := 2) (by decide) rfl ?_
      refine gw_cVp C 21 dX6_serveAt_18 rfl yv_X6_ofClerk lk_X6_58 [.int x3, .int (2 : Int32)] [.int x2] rfl (ct_X6_ofClerk (E := E) (l := ps_l X) x3 (2 : Int32) M (hk.2.2 c11).1) pm_recv rfl (Nat.le_of_ble_eq_true rfl) (Nat.le_of_ble_eq_true rfl) (Nat.le_of_ble_eq_true rfl) ?_
      refine gw_iload_n C 22 dX6_serveAt_21 1 rfl rfl ?_
      refine gw_ic_neP C 34 25 dX6_serveAt_22 (by decide) rfl (fun c22 => ?_) (fun c22 => ?_)
      · refine gw_aload_n C 26 dX6_serveAt_25 0 rfl rfl ?_
        refine gw_iload_n C 27 dX6_serveAt_26 3 rfl rfl ?_
        refine gw_iconst C 28 dX6_serveAt_27 (v := 0) (by decide) rfl ?_
        refine gw_cVp C 31 dX6_serveAt_28 rfl yv_X6_ofClerk lk_X6_58 [.int x3, .int (0 : Int32)] [.int x2] rfl (ct_X6_ofClerk (E := E) (l := ps_l X) x3 (0 : Int32) M ((hk.2.2 c11).2.1 c22).1) pm_recv rfl (Nat.le_of_ble_eq_true rfl) (Nat.le_of_ble_eq_true rfl) (Nat.le_of_ble_eq_true rfl) ?_
        refine gw_goto C 35 dX6_serveAt_31 (by decide) ?_
        refine gw_sub C [(0, .ref (ps_ad E 0)), (1, .int x1), (3, .int x3)] [0, 1, 3] rfl ?_
        exact bw_X6_serveAt_35 C RT M _ _ (fun a1 a2 a3  h => ih a1 a2 a3  h) x1 x3 (fv_X6_ofClerk x3 (0 : Int32) M) x2 ((hk.2.2 c11).2.1 c22).2
      · refine gw_iconst C 35 dX6_serveAt_34 (v := 0) (by decide) rfl ?_
        refine gw_sub C [(0, .ref (ps_ad E 0)), (1, .int x1), (3, .int x3)] [0, 1, 3] rfl ?_
        exact bw_X6_serveAt_35 C RT M _ _ (fun a1 a2 a3  h => ih a1 a2 a3  h) x1 x3 (0 : Int32) x2 ((hk.2.2 c11).2.2 c22)
def fv_X6_serveAt (x1 : Int32) (M : ps_M) : Int32 := fv_X6_serveAt_4 ps_FU x1 (0 : Int32) (0 : Int32) M
def ok_X6_serveAt (x1 : Int32) (M : ps_M) : Prop := ok_X6_serveAt_4 ps_FU x1 (0 : Int32) (0 : Int32) M
set_option maxRecDepth 100000 in
set_option maxHeartbeats 4000000 in
theorem bw_X6_serveAt {E : ps_E} {X : ps_X (Int32 × ps_M)} (C : ps_C (pm_Y E) X cX6_serveAt RX6 (some .int) 1 22 4) (RT : ps_RI (pm_Y E) X cX6_serveAt .int) (M : ps_M) (x1 : Int32) (hk : ok_X6_serveAt x1 M) : ps_G (pm_Y E) X (fv_X6_serveAt x1 M, M) 0 [(0, .ref (ps_ad E 0)), (1, .int x1)] [] M := by
  unfold fv_X6_serveAt
  unfold ok_X6_serveAt at hk
  refine gw_iconst C 1 dX6_serveAt_0 (v := 0) (by decide) rfl ?_
  refine gw_istore_n C 2 dX6_serveAt_1 rfl [(0, .ref (ps_ad E 0)), (1, .int x1), (2, .int (0 : Int32))] [1, 2, 0] (by decide) rfl ?_
  refine gw_iconst C 3 dX6_serveAt_2 (v := 0) (by decide) rfl ?_
  refine gw_istore_n C 4 dX6_serveAt_3 rfl [(0, .ref (ps_ad E 0)), (1, .int x1), (2, .int (0 : Int32)), (3, .int (0 : Int32))] [1, 2, 3, 0] (by decide) rfl ?_
  exact bw_X6_serveAt_4 C RT M  ps_FU x1 (0 : Int32) (0 : Int32) hk
theorem ct_X6_serveAt {E : ps_E} {l : Launch} (x1 : Int32)  (M : ps_M) (hk : ok_X6_serveAt x1 M) : ps_CI (pm_Y E) l yX6_serveAt cX6_serveAt 4 (some .int) 1 22 [.ref (ps_ad E 0), .int x1] M (fv_X6_serveAt x1 M, M) := ps_metI RX6 (by decide) rfl (Nat.le_of_ble_eq_true rfl) rfl (fun X _ C RT => bw_X6_serveAt C RT M x1 hk)
def fv_X6_assign (x1 : Int32) (x2 : Int32) (M : ps_M) : Int32 × ps_M := if (fv_X6_isClerk x1 M) = 0 then (((-1 : Int32), M)) else (if (fv_X6_isStation x2 M) = 0 then (((-1 : Int32), M)) else (if (fv_X6_isFree x1 M) = 0 then (((-4 : Int32), M)) else (((fv_X6_onDutyAt x2 (fv_X6_laysClerk x1 (2 : Int32) x2 (fv_X6_records M))), (fv_X6_laysClerk x1 (2 : Int32) x2 (fv_X6_records M))))))
def ok_X6_assign (x1 : Int32) (x2 : Int32) (M : ps_M) : Prop := (ok_X6_isClerk x1 M) ∧ (((fv_X6_isClerk x1 M) = 0 → True) ∧ (¬ ((fv_X6_isClerk x1 M) = 0) → ((ok_X6_isStation x2 M) ∧ (((fv_X6_isStation x2 M) = 0 → True) ∧ (¬ ((fv_X6_isStation x2 M) = 0) → ((ok_X6_isFree x1 M) ∧ (((fv_X6_isFree x1 M) = 0 → True) ∧ (¬ ((fv_X6_isFree x1 M) = 0) → ((ok_X6_records M) ∧ ((ok_X6_laysClerk x1 (2 : Int32) x2 (fv_X6_records M)) ∧ ((ok_X6_onDutyAt x2 (fv_X6_laysClerk x1 (2 : Int32) x2 (fv_X6_records M))) ∧ True)))))))))))
set_option maxRecDepth 100000 in
set_option maxHeartbeats 4000000 in
theorem bw_X6_assign {E : ps_E} {X : ps_X (Int32 × ps_M)} (C : ps_C (pm_Y E) X cX6_assign RX6 (some .int) 2 45 3) (RT : ps_RI (pm_Y E) X cX6_assign .int) (x1 : Int32) (x2 : Int32) (M : ps_M) (hk : ok_X6_assign x1 x2 M) : ps_G (pm_Y E) X (fv_X6_assign x1 x2 M) 0 [(0, .ref (ps_ad E 0)), (1, .int x1), (2, .int x2)] [] M := by
  unfold fv_X6_assign
  unfold ok_X6_assign at hk
  refine gw_aload_n C 1 dX6_assign_0 0 rfl rfl ?_
  refine gw_iload_n C 2 dX6_assign_1 1 rfl rfl ?_
  refine gw_cVp C 5 dX6_assign_2 rfl yv_X6_isClerk lk_X6_68 [.int x1] [] rfl (ct_X6_isClerk (E := E) (l := ps_l X) x1 M hk.1) pm_recv rfl (Nat.le_of_ble_eq_true rfl) (Nat.le_of_ble_eq_true rfl) (Nat.le_of_ble_eq_true rfl) ?_
  refine gw_if_eq C 16 8 dX6_assign_5 (by decide) rfl (fun c5 => ?_) (fun c5 => ?_)
  · refine gw_iconst C 17 dX6_assign_16 (v := (-1)) (by decide) rfl ?_
    exact RT _ _ _ _ dX6_assign_17 rfl
  · refine gw_aload_n C 9 dX6_assign_8 0 rfl rfl ?_
    refine gw_iload_n C 10 dX6_assign_9 2 rfl rfl ?_
    refine gw_cVp C 13 dX6_assign_10 rfl yv_X6_isStation lk_X6_50 [.int x2] [] rfl (ct_X6_isStation (E := E) (l := ps_l X) x2 M (hk.2.2 c5).1) pm_recv rfl (Nat.le_of_ble_eq_true rfl) (Nat.le_of_ble_eq_true rfl) (Nat.le_of_ble_eq_true rfl) ?_
    refine gw_if_ne C 18 16 dX6_assign_13 (by decide) rfl (fun c13 => ?_) (fun c13 => ?_)
    · refine gw_iconst C 17 dX6_assign_16 (v := (-1)) (by decide) rfl ?_
      exact RT _ _ _ _ dX6_assign_17 rfl
    · refine gw_aload_n C 19 dX6_assign_18 0 rfl rfl ?_
      refine gw_iload_n C 20 dX6_assign_19 1 rfl rfl ?_
      refine gw_cVp C 23 dX6_assign_20 rfl yv_X6_isFree lk_X6_61 [.int x1] [] rfl (ct_X6_isFree (E := E) (l := ps_l X) x1 M ((hk.2.2 c5).2.2 c13).1) pm_recv rfl (Nat.le_of_ble_eq_true rfl) (Nat.le_of_ble_eq_true rfl) (Nat.le_of_ble_eq_true rfl) ?_
      refine gw_if_ne C 29 26 dX6_assign_23 (by decide) rfl (fun c23 => ?_) (fun c23 => ?_)
      · refine gw_bipush C 28 dX6_assign_26 (v := (-4)) (by decide) rfl ?_
        exact RT _ _ _ _ dX6_assign_28 rfl
      · refine gw_aload_n C 30 dX6_assign_29 0 rfl rfl ?_
        refine gw_cVv C 33 dX6_assign_30 rfl yv_X6_records lk_X6_40 [] [] rfl (ct_X6_records (E := E) (l := ps_l X) M (((hk.2.2 c5).2.2 c13).2.2 c23).1) pm_recv rfl (Nat.le_of_ble_eq_true rfl) (Nat.le_of_ble_eq_true rfl) (Nat.le_of_ble_eq_true rfl) ?_
        refine gw_aload_n C 34 dX6_assign_33 0 rfl rfl ?_
        refine gw_iload_n C 35 dX6_assign_34 1 rfl rfl ?_
        refine gw_iconst C 36 dX6_assign_35 (v := 2) (by decide) rfl ?_
        refine gw_iload_n C 37 dX6_assign_36 2 rfl rfl ?_
        refine gw_cVv C 40 dX6_assign_37 rfl yv_X6_laysClerk lk_X6_47 [.int x1, .int (2 : Int32), .int x2] [] rfl (ct_X6_laysClerk (E := E) (l := ps_l X) x1 (2 : Int32) x2 (fv_X6_records M) (((hk.2.2 c5).2.2 c13).2.2 c23).2.1) pm_recv rfl (Nat.le_of_ble_eq_true rfl) (Nat.le_of_ble_eq_true rfl) (Nat.le_of_ble_eq_true rfl) ?_
        refine gw_aload_n C 41 dX6_assign_40 0 rfl rfl ?_
        refine gw_iload_n C 42 dX6_assign_41 2 rfl rfl ?_
        refine gw_cVp C 45 dX6_assign_42 rfl yv_X6_onDutyAt lk_X6_71 [.int x2] [] rfl (ct_X6_onDutyAt (E := E) (l := ps_l X) x2 (fv_X6_laysClerk x1 (2 : Int32) x2 (fv_X6_records M)) (((hk.2.2 c5).2.2 c13).2.2 c23).2.2.1) pm_recv rfl (Nat.le_of_ble_eq_true rfl) (Nat.le_of_ble_eq_true rfl) (Nat.le_of_ble_eq_true rfl) ?_
        exact RT _ _ _ _ dX6_assign_45 rfl
theorem ct_X6_assign {E : ps_E} {l : Launch} (x1 : Int32) (x2 : Int32)  (M : ps_M) (hk : ok_X6_assign x1 x2 M) : ps_CI (pm_Y E) l yX6_assign cX6_assign 3 (some .int) 2 45 [.ref (ps_ad E 0), .int x1, .int x2] M (fv_X6_assign x1 x2 M) := ps_metI RX6 (by decide) rfl (Nat.le_of_ble_eq_true rfl) rfl (fun X _ C RT => bw_X6_assign C RT x1 x2 M hk)
def fv_X6_leaves (x1 : Int32) (x2 : Int32) (M : ps_M) : ps_M := (fv_X6_laysClerk x1 (5 : Int32) x2 (fv_X6_laysClerk x1 (3 : Int32) (0 : Int32) (fv_X6_laysClerk x1 (2 : Int32) (-1 : Int32) M)))
def ok_X6_leaves (x1 : Int32) (x2 : Int32) (M : ps_M) : Prop := (ok_X6_laysClerk x1 (2 : Int32) (-1 : Int32) M) ∧ ((ok_X6_laysClerk x1 (3 : Int32) (0 : Int32) (fv_X6_laysClerk x1 (2 : Int32) (-1 : Int32) M)) ∧ ((ok_X6_laysClerk x1 (5 : Int32) x2 (fv_X6_laysClerk x1 (3 : Int32) (0 : Int32) (fv_X6_laysClerk x1 (2 : Int32) (-1 : Int32) M))) ∧ True))
set_option maxRecDepth 100000 in
set_option maxHeartbeats 4000000 in
theorem bw_X6_leaves {E : ps_E} {X : ps_X ps_M} (C : ps_C (pm_Y E) X cX6_leaves RX6 none 1 23 3) (RT : ps_RV (pm_Y E) X cX6_leaves) (x1 : Int32) (x2 : Int32) (M : ps_M) (hk : ok_X6_leaves x1 x2 M) : ps_G (pm_Y E) X (fv_X6_leaves x1 x2 M) 0 [(0, .ref (ps_ad E 0)), (1, .int x1), (2, .int x2)] [] M := by
  unfold fv_X6_leaves
  unfold ok_X6_leaves at hk
  refine gw_aload_n C 1 dX6_leaves_0 0 rfl rfl ?_
  refine gw_iload_n C 2 dX6_leaves_1 1 rfl rfl ?_
  refine gw_iconst C 3 dX6_leaves_2 (v := 2) (by decide) rfl ?_
  refine gw_iconst C 4 dX6_leaves_3 (v := (-1)) (by decide) rfl ?_
  refine gw_cVv C 7 dX6_leaves_4 rfl yv_X6_laysClerk lk_X6_47 [.int x1, .int (2 : Int32), .int (-1 : Int32)] [] rfl (ct_X6_laysClerk (E := E) (l := ps_l X) x1 (2 : Int32) (-1 : Int32) M hk.1) pm_recv rfl (Nat.le_of_ble_eq_true rfl) (Nat.le_of_ble_eq_true rfl) (Nat.le_of_ble_eq_true rfl) ?_
  refine gw_aload_n C 8 dX6_leaves_7 0 rfl rfl ?_
  refine gw_iload_n C 9 dX6_leaves_8 1 rfl rfl ?_
  refine gw_iconst C 10 dX6_leaves_9 (v := 3) (by decide) rfl ?_
  refine gw_iconst C 11 dX6_leaves_10 (v := 0) (by decide) rfl ?_
  refine gw_cVv C 14 dX6_leaves_11 rfl yv_X6_laysClerk lk_X6_47 [.int x1, .int (3 : Int32), .int (0 : Int32)] [] rfl (ct_X6_laysClerk (E := E) (l := ps_l X) x1 (3 : Int32) (0 : Int32) (fv_X6_laysClerk x1 (2 : Int32) (-1 : Int32) M) hk.2.1) pm_recv rfl (Nat.le_of_ble_eq_true rfl) (Nat.le_of_ble_eq_true rfl) (Nat.le_of_ble_eq_true rfl) ?_
  refine gw_aload_n C 15 dX6_leaves_14 0 rfl rfl ?_
  refine gw_iload_n C 16 dX6_leaves_15 1 rfl rfl ?_
  refine gw_iconst C 17 dX6_leaves_16 (v := 5) (by decide) rfl ?_
  refine gw_iload_n C 18 dX6_leaves_17 2 rfl rfl ?_
  refine gw_cVv C 21 dX6_leaves_18 rfl yv_X6_laysClerk lk_X6_47 [.int x1, .int (5 : Int32), .int x2] [] rfl (ct_X6_laysClerk (E := E) (l := ps_l X) x1 (5 : Int32) x2 (fv_X6_laysClerk x1 (3 : Int32) (0 : Int32) (fv_X6_laysClerk x1 (2 : Int32) (-1 : Int32) M)) hk.2.2.1) pm_recv rfl (Nat.le_of_ble_eq_true rfl) (Nat.le_of_ble_eq_true rfl) (Nat.le_of_ble_eq_true rfl) ?_
  exact RT _ _ _ dX6_leaves_21
theorem ct_X6_leaves {E : ps_E} {l : Launch} (x1 : Int32) (x2 : Int32)  (M : ps_M) (hk : ok_X6_leaves x1 x2 M) : ps_CV (pm_Y E) l yX6_leaves cX6_leaves 3 1 23 [.ref (ps_ad E 0), .int x1, .int x2] M (fv_X6_leaves x1 x2 M) := ps_metV RX6 (by decide) rfl (Nat.le_of_ble_eq_true rfl) rfl (fun X _ C RT => bw_X6_leaves C RT x1 x2 M hk)
def fv_X6_relieve (x1 : Int32) (M : ps_M) : Int32 × ps_M := if (fv_X6_isClerk x1 M) = 0 then (((-1 : Int32), M)) else (if (fv_X6_ofClerk x1 (2 : Int32) M) = (-1 : Int32) then (((-5 : Int32), M)) else (((fv_X6_ofClerk x1 (3 : Int32) (fv_X6_records M)), (fv_X6_leaves x1 (1 : Int32) (fv_X6_records M)))))
def ok_X6_relieve (x1 : Int32) (M : ps_M) : Prop := (ok_X6_isClerk x1 M) ∧ (((fv_X6_isClerk x1 M) = 0 → True) ∧ (¬ ((fv_X6_isClerk x1 M) = 0) → ((ok_X6_ofClerk x1 (2 : Int32) M) ∧ (((fv_X6_ofClerk x1 (2 : Int32) M) = (-1 : Int32) → True) ∧ (¬ ((fv_X6_ofClerk x1 (2 : Int32) M) = (-1 : Int32)) → ((ok_X6_records M) ∧ ((ok_X6_ofClerk x1 (3 : Int32) (fv_X6_records M)) ∧ ((ok_X6_leaves x1 (1 : Int32) (fv_X6_records M)) ∧ True))))))))
set_option maxRecDepth 100000 in
set_option maxHeartbeats 4000000 in
theorem bw_X6_relieve {E : ps_E} {X : ps_X (Int32 × ps_M)} (C : ps_C (pm_Y E) X cX6_relieve RX6 (some .int) 2 45 3) (RT : ps_RI (pm_Y E) X cX6_relieve .int) (x1 : Int32) (M : ps_M) (hk : ok_X6_relieve x1 M) : ps_G (pm_Y E) X (fv_X6_relieve x1 M) 0 [(0, .ref (ps_ad E 0)), (1, .int x1)] [] M := by
  unfold fv_X6_relieve
  unfold ok_X6_relieve at hk
  refine gw_aload_n C 1 dX6_relieve_0 0 rfl rfl ?_
  refine gw_iload_n C 2 dX6_relieve_1 1 rfl rfl ?_
  refine gw_cVp C 5 dX6_relieve_2 rfl yv_X6_isClerk lk_X6_68 [.int x1] [] rfl (ct_X6_isClerk (E := E) (l := ps_l X) x1 M hk.1) pm_recv rfl (Nat.le_of_ble_eq_true rfl) (Nat.le_of_ble_eq_true rfl) (Nat.le_of_ble_eq_true rfl) ?_
  refine gw_if_ne C 10 8 dX6_relieve_5 (by decide) rfl (fun c5 => ?_) (fun c5 => ?_)
  · refine gw_iconst C 9 dX6_relieve_8 (v := (-1)) (by decide) rfl ?_
    exact RT _ _ _ _ dX6_relieve_9 rfl
  · refine gw_aload_n C 11 dX6_relieve_10 0 rfl rfl ?_
    refine gw_iload_n C 12 dX6_relieve_11 1 rfl rfl ?_
    refine gw_iconst C 13 dX6_relieve_12 (v := 2) (by decide) rfl ?_
    refine gw_cVp C 16 dX6_relieve_13 rfl yv_X6_ofClerk lk_X6_58 [.int x1, .int (2 : Int32)] [] rfl (ct_X6_ofClerk (E := E) (l := ps_l X) x1 (2 : Int32) M (hk.2.2 c5).1) pm_recv rfl (Nat.le_of_ble_eq_true rfl) (Nat.le_of_ble_eq_true rfl) (Nat.le_of_ble_eq_true rfl) ?_
    refine gw_iconst C 17 dX6_relieve_16 (v := (-1)) (by decide) rfl ?_
    refine gw_ic_ne C 23 20 dX6_relieve_17 (by decide) rfl (fun c17 => ?_) (fun c17 => ?_)
    · refine gw_bipush C 22 dX6_relieve_20 (v := (-5)) (by decide) rfl ?_
      exact RT _ _ _ _ dX6_relieve_22 rfl
    · refine gw_aload_n C 24 dX6_relieve_23 0 rfl rfl ?_
      refine gw_cVv C 27 dX6_relieve_24 rfl yv_X6_records lk_X6_40 [] [] rfl (ct_X6_records (E := E) (l := ps_l X) M ((hk.2.2 c5).2.2 c17).1) pm_recv rfl (Nat.le_of_ble_eq_true rfl) (Nat.le_of_ble_eq_true rfl) (Nat.le_of_ble_eq_true rfl) ?_
      refine gw_aload_n C 28 dX6_relieve_27 0 rfl rfl ?_
      refine gw_iload_n C 29 dX6_relieve_28 1 rfl rfl ?_
      refine gw_iconst C 30 dX6_relieve_29 (v := 3) (by decide) rfl ?_
      refine gw_cVp C 33 dX6_relieve_30 rfl yv_X6_ofClerk lk_X6_58 [.int x1, .int (3 : Int32)] [] rfl (ct_X6_ofClerk (E := E) (l := ps_l X) x1 (3 : Int32) (fv_X6_records M) ((hk.2.2 c5).2.2 c17).2.1) pm_recv rfl (Nat.le_of_ble_eq_true rfl) (Nat.le_of_ble_eq_true rfl) (Nat.le_of_ble_eq_true rfl) ?_
      refine gw_istore_n C 34 dX6_relieve_33 rfl [(0, .ref (ps_ad E 0)), (1, .int x1), (2, .int (fv_X6_ofClerk x1 (3 : Int32) (fv_X6_records M)))] [1, 2, 0] (by decide) rfl ?_
      refine gw_aload_n C 35 dX6_relieve_34 0 rfl rfl ?_
      refine gw_iload_n C 36 dX6_relieve_35 1 rfl rfl ?_
      refine gw_iconst C 37 dX6_relieve_36 (v := 1) (by decide) rfl ?_
      refine gw_cVv C 40 dX6_relieve_37 rfl yv_X6_leaves lk_X6_74 [.int x1, .int (1 : Int32)] [] rfl (ct_X6_leaves (E := E) (l := ps_l X) x1 (1 : Int32) (fv_X6_records M) ((hk.2.2 c5).2.2 c17).2.2.1) pm_recv rfl (Nat.le_of_ble_eq_true rfl) (Nat.le_of_ble_eq_true rfl) (Nat.le_of_ble_eq_true rfl) ?_
      refine gw_iload_n C 41 dX6_relieve_40 2 rfl rfl ?_
      exact RT _ _ _ _ dX6_relieve_41 rfl
theorem ct_X6_relieve {E : ps_E} {l : Launch} (x1 : Int32)  (M : ps_M) (hk : ok_X6_relieve x1 M) : ps_CI (pm_Y E) l yX6_relieve cX6_relieve 3 (some .int) 2 45 [.ref (ps_ad E 0), .int x1] M (fv_X6_relieve x1 M) := ps_metI RX6 (by decide) rfl (Nat.le_of_ble_eq_true rfl) rfl (fun X _ C RT => bw_X6_relieve C RT x1 M hk)
def fv_X6_serves_135 (x2 : Int32) (M : ps_M) : Int32 × ps_M := (x2, M)
def ok_X6_serves_135 (x2 : Int32) (M : ps_M) : Prop := True
set_option maxRecDepth 100000 in
set_option maxHeartbeats 4000000 in
theorem bw_X6_serves_135 {E : ps_E} {X : ps_X (Int32 × ps_M)} (C : ps_C (pm_Y E) X cX6_serves RX6 (some .int) 2 45 3) (RT : ps_RI (pm_Y E) X cX6_serves .int) (x2 : Int32) (M : ps_M) (hk : ok_X6_serves_135 x2 M) : ps_G (pm_Y E) X (fv_X6_serves_135 x2 M) 135 [(2, .int x2)] [] M := by
  unfold fv_X6_serves_135
  unfold ok_X6_serves_135 at hk
  refine gw_iload_n C 136 dX6_serves_135 0 rfl rfl ?_
  exact RT _ _ _ _ dX6_serves_136 rfl
def fv_X6_serves_85 (x1 : Int32) (x2 : Int32) (M : ps_M) : Int32 × ps_M := if (fv_X6_of x1 (0 : Int32) (fv_X6_adds x1 (3 : Int32) (fv_X6_of x1 (0 : Int32) M) M)) ≤ (fv_X6_of x1 (1 : Int32) (fv_X6_adds x1 (3 : Int32) (fv_X6_of x1 (0 : Int32) M) M)) then ((x2, (fv_X6_adds x1 (1 : Int32) (0 : Int32) (fv_X6_adds x1 (3 : Int32) (fv_X6_of x1 (0 : Int32) M) M)))) else (fv_X6_serves_135 x2 (fv_X6_adds x1 (1 : Int32) ((fv_X6_of x1 (0 : Int32) (fv_X6_adds x1 (3 : Int32) (fv_X6_of x1 (0 : Int32) M) M)) - (fv_X6_of x1 (1 : Int32) (fv_X6_adds x1 (3 : Int32) (fv_X6_of x1 (0 : Int32) M) M))) (fv_X6_adds x1 (3 : Int32) (fv_X6_of x1 (0 : Int32) M) M)))
def ok_X6_serves_85 (x1 : Int32) (x2 : Int32) (M : ps_M) : Prop := (ok_X6_of x1 (0 : Int32) M) ∧ ((ok_X6_adds x1 (3 : Int32) (fv_X6_of x1 (0 : Int32) M) M) ∧ ((ok_X6_of x1 (0 : Int32) (fv_X6_adds x1 (3 : Int32) (fv_X6_of x1 (0 : Int32) M) M)) ∧ ((ok_X6_of x1 (1 : Int32) (fv_X6_adds x1 (3 : Int32) (fv_X6_of x1 (0 : Int32) M) M)) ∧ (((fv_X6_of x1 (0 : Int32) (fv_X6_adds x1 (3 : Int32) (fv_X6_of x1 (0 : Int32) M) M)) ≤ (fv_X6_of x1 (1 : Int32) (fv_X6_adds x1 (3 : Int32) (fv_X6_of x1 (0 : Int32) M) M)) → ((ok_X6_adds x1 (1 : Int32) (0 : Int32) (fv_X6_adds x1 (3 : Int32) (fv_X6_of x1 (0 : Int32) M) M)) ∧ True)) ∧ (¬ ((fv_X6_of x1 (0 : Int32) (fv_X6_adds x1 (3 : Int32) (fv_X6_of x1 (0 : Int32) M) M)) ≤ (fv_X6_of x1 (1 : Int32) (fv_X6_adds x1 (3 : Int32) (fv_X6_of x1 (0 : Int32) M) M))) → ((ok_X6_of x1 (0 : Int32) (fv_X6_adds x1 (3 : Int32) (fv_X6_of x1 (0 : Int32) M) M)) ∧ ((ok_X6_of x1 (1 : Int32) (fv_X6_adds x1 (3 : Int32) (fv_X6_of x1 (0 : Int32) M) M)) ∧ ((ok_X6_adds x1 (1 : Int32) ((fv_X6_of x1 (0 : Int32) (fv_X6_adds x1 (3 : Int32) (fv_X6_of x1 (0 : Int32) M) M)) - (fv_X6_of x1 (1 : Int32) (fv_X6_adds x1 (3 : Int32) (fv_X6_of x1 (0 : Int32) M) M))) (fv_X6_adds x1 (3 : Int32) (fv_X6_of x1 (0 : Int32) M) M)) ∧ (ok_X6_serves_135 x2 (fv_X6_adds x1 (1 : Int32) ((fv_X6_of x1 (0 : Int32) (fv_X6_adds x1 (3 : Int32) (fv_X6_of x1 (0 : Int32) M) M)) - (fv_X6_of x1 (1 : Int32) (fv_X6_adds x1 (3 : Int32) (fv_X6_of x1 (0 : Int32) M) M))) (fv_X6_adds x1 (3 : Int32) (fv_X6_of x1 (0 : Int32) M) M)))))))))))
set_option maxRecDepth 100000 in
set_option maxHeartbeats 4000000 in
theorem bw_X6_serves_85 {E : ps_E} {X : ps_X (Int32 × ps_M)} (C : ps_C (pm_Y E) X cX6_serves RX6 (some .int) 2 45 3) (RT : ps_RI (pm_Y E) X cX6_serves .int) (x1 : Int32) (x2 : Int32) (M : ps_M) (hk : ok_X6_serves_85 x1 x2 M) : ps_G (pm_Y E) X (fv_X6_serves_85 x1 x2 M) 85 [(0, .ref (ps_ad E 0)), (1, .int x1), (2, .int x2)] [] M := by
  unfold fv_X6_serves_85
  unfold ok_X6_serves_85 at hk
  refine gw_aload_n C 86 dX6_serves_85 0 rfl rfl ?_
  refine gw_iload_n C 87 dX6_serves_86 1 rfl rfl ?_
  refine gw_iconst C 88 dX6_serves_87 (v := 3) (by decide) rfl ?_
  refine gw_aload_n C 89 dX6_serves_88 0 rfl rfl ?_
  refine gw_iload_n C 90 dX6_serves_89 1 rfl rfl ?_
  refine gw_iconst C 91 dX6_serves_90 (v := 0) (by decide) rfl ?_
  refine gw_cVp C 94 dX6_serves_91 rfl yv_X6_of lk_X6_54 [.int x1, .int (0 : Int32)] [.int (3 : Int32), .int x1, .ref (ps_ad E 0)] rfl (ct_X6_of (E := E) (l := ps_l X) x1 (0 : Int32) M hk.1) pm_recv rfl (Nat.le_of_ble_eq_true rfl) (Nat.le_of_ble_eq_true rfl) (Nat.le_of_ble_eq_true rfl) ?_
  refine gw_cVv C 97 dX6_serves_94 rfl yv_X6_adds lk_X6_43 [.int x1, .int (3 : Int32), .int (fv_X6_of x1 (0 : Int32) M)] [] rfl (ct_X6_adds (E := E) (l := ps_l X) x1 (3 : Int32) (fv_X6_of x1 (0 : Int32) M) M hk.2.1) pm_recv rfl (Nat.le_of_ble_eq_true rfl) (Nat.le_of_ble_eq_true rfl) (Nat.le_of_ble_eq_true rfl) ?_
  refine gw_aload_n C 98 dX6_serves_97 0 rfl rfl ?_
  refine gw_iload_n C 99 dX6_serves_98 1 rfl rfl ?_
  refine gw_iconst C 100 dX6_serves_99 (v := 1) (by decide) rfl ?_
  refine gw_aload_n C 101 dX6_serves_100 0 rfl rfl ?_
  refine gw_iload_n C 102 dX6_serves_101 1 rfl rfl ?_
  refine gw_iconst C 103 dX6_serves_102 (v := 0) (by decide) rfl ?_
  refine gw_cVp C 106 dX6_serves_103 rfl yv_X6_of lk_X6_54 [.int x1, .int (0 : Int32)] [.int (1 : Int32), .int x1, .ref (ps_ad E 0)] rfl (ct_X6_of (E := E) (l := ps_l X) x1 (0 : Int32) (fv_X6_adds x1 (3 : Int32) (fv_X6_of x1 (0 : Int32) M) M) hk.2.2.1) pm_recv rfl (Nat.le_of_ble_eq_true rfl) (Nat.le_of_ble_eq_true rfl) (Nat.le_of_ble_eq_true rfl) ?_
  refine gw_aload_n C 107 dX6_serves_106 0 rfl rfl ?_
  refine gw_iload_n C 108 dX6_serves_107 1 rfl rfl ?_
  refine gw_iconst C 109 dX6_serves_108 (v := 1) (by decide) rfl ?_
  refine gw_cVp C 112 dX6_serves_109 rfl yv_X6_of lk_X6_54 [.int x1, .int (1 : Int32)] [.int (fv_X6_of x1 (0 : Int32) (fv_X6_adds x1 (3 : Int32) (fv_X6_of x1 (0 : Int32) M) M)), .int (1 : Int32), .int x1, .ref (ps_ad E 0)] rfl (ct_X6_of (E := E) (l := ps_l X) x1 (1 : Int32) (fv_X6_adds x1 (3 : Int32) (fv_X6_of x1 (0 : Int32) M) M) hk.2.2.2.1) pm_recv rfl (Nat.le_of_ble_eq_true rfl) (Nat.le_of_ble_eq_true rfl) (Nat.le_of_ble_eq_true rfl) ?_
  refine gw_ic_le C 131 115 dX6_serves_112 (by decide) rfl (fun c112 => ?_) (fun c112 => ?_)
  · refine gw_iconst C 132 dX6_serves_131 (v := 0) (by decide) rfl ?_
    refine gw_cVv C 135 dX6_serves_132 rfl yv_X6_adds lk_X6_43 [.int x1, .int (1 : Int32), .int (0 : Int32)] [] rfl (ct_X6_adds (E := E) (l := ps_l X) x1 (1 : Int32) (0 : Int32) (fv_X6_adds x1 (3 : Int32) (fv_X6_of x1 (0 : Int32) M) M) (hk.2.2.2.2.1 c112).1) pm_recv rfl (Nat.le_of_ble_eq_true rfl) (Nat.le_of_ble_eq_true rfl) (Nat.le_of_ble_eq_true rfl) ?_
    refine gw_iload_n C 136 dX6_serves_135 2 rfl rfl ?_
    exact RT _ _ _ _ dX6_serves_136 rfl
  · refine gw_aload_n C 116 dX6_serves_115 0 rfl rfl ?_
    refine gw_iload_n C 117 dX6_serves_116 1 rfl rfl ?_
    refine gw_iconst C 118 dX6_serves_117 (v := 0) (by decide) rfl ?_
    refine gw_cVp C 121 dX6_serves_118 rfl yv_X6_of lk_X6_54 [.int x1, .int (0 : Int32)] [.int (1 : Int32), .int x1, .ref (ps_ad E 0)] rfl (ct_X6_of (E := E) (l := ps_l X) x1 (0 : Int32) (fv_X6_adds x1 (3 : Int32) (fv_X6_of x1 (0 : Int32) M) M) (hk.2.2.2.2.2 c112).1) pm_recv rfl (Nat.le_of_ble_eq_true rfl) (Nat.le_of_ble_eq_true rfl) (Nat.le_of_ble_eq_true rfl) ?_
    refine gw_aload_n C 122 dX6_serves_121 0 rfl rfl ?_
    refine gw_iload_n C 123 dX6_serves_122 1 rfl rfl ?_
    refine gw_iconst C 124 dX6_serves_123 (v := 1) (by decide) rfl ?_
    refine gw_cVp C 127 dX6_serves_124 rfl yv_X6_of lk_X6_54 [.int x1, .int (1 : Int32)] [.int (fv_X6_of x1 (0 : Int32) (fv_X6_adds x1 (3 : Int32) (fv_X6_of x1 (0 : Int32) M) M)), .int (1 : Int32), .int x1, .ref (ps_ad E 0)] rfl (ct_X6_of (E := E) (l := ps_l X) x1 (1 : Int32) (fv_X6_adds x1 (3 : Int32) (fv_X6_of x1 (0 : Int32) M) M) (hk.2.2.2.2.2 c112).2.1) pm_recv rfl (Nat.le_of_ble_eq_true rfl) (Nat.le_of_ble_eq_true rfl) (Nat.le_of_ble_eq_true rfl) ?_
    refine gw_isub C 128 dX6_serves_127 rfl ?_
    refine gw_goto C 132 dX6_serves_128 (by decide) ?_
    refine gw_cVv C 135 dX6_serves_132 rfl yv_X6_adds lk_X6_43 [.int x1, .int (1 : Int32), .int ((fv_X6_of x1 (0 : Int32) (fv_X6_adds x1 (3 : Int32) (fv_X6_of x1 (0 : Int32) M) M)) - (fv_X6_of x1 (1 : Int32) (fv_X6_adds x1 (3 : Int32) (fv_X6_of x1 (0 : Int32) M) M)))] [] rfl (ct_X6_adds (E := E) (l := ps_l X) x1 (1 : Int32) ((fv_X6_of x1 (0 : Int32) (fv_X6_adds x1 (3 : Int32) (fv_X6_of x1 (0 : Int32) M) M)) - (fv_X6_of x1 (1 : Int32) (fv_X6_adds x1 (3 : Int32) (fv_X6_of x1 (0 : Int32) M) M))) (fv_X6_adds x1 (3 : Int32) (fv_X6_of x1 (0 : Int32) M) M) (hk.2.2.2.2.2 c112).2.2.1) pm_recv rfl (Nat.le_of_ble_eq_true rfl) (Nat.le_of_ble_eq_true rfl) (Nat.le_of_ble_eq_true rfl) ?_
    refine gw_sub C [(2, .int x2)] [2] rfl ?_
    exact bw_X6_serves_135 C RT  x2 (fv_X6_adds x1 (1 : Int32) ((fv_X6_of x1 (0 : Int32) (fv_X6_adds x1 (3 : Int32) (fv_X6_of x1 (0 : Int32) M) M)) - (fv_X6_of x1 (1 : Int32) (fv_X6_adds x1 (3 : Int32) (fv_X6_of x1 (0 : Int32) M) M))) (fv_X6_adds x1 (3 : Int32) (fv_X6_of x1 (0 : Int32) M) M)) (hk.2.2.2.2.2 c112).2.2.2
def fv_X6_serves_46 (x1 : Int32) (s0 : Int32) (M : ps_M) : Int32 × ps_M := fv_X6_serves_85 x1 s0 (fv_X6_adds x1 (9 : Int32) s0 (fv_X6_adds x1 (5 : Int32) s0 (fv_X6_adds x1 (2 : Int32) s0 (fv_X6_adds x1 (4 : Int32) (-s0) (fv_X6_adds x1 (0 : Int32) (-s0) M)))))
def ok_X6_serves_46 (x1 : Int32) (s0 : Int32) (M : ps_M) : Prop := (ok_X6_adds x1 (0 : Int32) (-s0) M) ∧ ((ok_X6_adds x1 (4 : Int32) (-s0) (fv_X6_adds x1 (0 : Int32) (-s0) M)) ∧ ((ok_X6_adds x1 (2 : Int32) s0 (fv_X6_adds x1 (4 : Int32) (-s0) (fv_X6_adds x1 (0 : Int32) (-s0) M))) ∧ ((ok_X6_adds x1 (5 : Int32) s0 (fv_X6_adds x1 (2 : Int32) s0 (fv_X6_adds x1 (4 : Int32) (-s0) (fv_X6_adds x1 (0 : Int32) (-s0) M)))) ∧ ((ok_X6_adds x1 (9 : Int32) s0 (fv_X6_adds x1 (5 : Int32) s0 (fv_X6_adds x1 (2 : Int32) s0 (fv_X6_adds x1 (4 : Int32) (-s0) (fv_X6_adds x1 (0 : Int32) (-s0) M))))) ∧ (ok_X6_serves_85 x1 s0 (fv_X6_adds x1 (9 : Int32) s0 (fv_X6_adds x1 (5 : Int32) s0 (fv_X6_adds x1 (2 : Int32) s0 (fv_X6_adds x1 (4 : Int32) (-s0) (fv_X6_adds x1 (0 : Int32) (-s0) M))))))))))
set_option maxRecDepth 100000 in
set_option maxHeartbeats 4000000 in
theorem bw_X6_serves_46 {E : ps_E} {X : ps_X (Int32 × ps_M)} (C : ps_C (pm_Y E) X cX6_serves RX6 (some .int) 2 45 3) (RT : ps_RI (pm_Y E) X cX6_serves .int) (x1 : Int32) (s0 : Int32) (M : ps_M) (hk : ok_X6_serves_46 x1 s0 M) : ps_G (pm_Y E) X (fv_X6_serves_46 x1 s0 M) 46 [(0, .ref (ps_ad E 0)), (1, .int x1)] [.int s0] M := by
  unfold fv_X6_serves_46
  unfold ok_X6_serves_46 at hk
  refine gw_istore_n C 47 dX6_serves_46 rfl [(0, .ref (ps_ad E 0)), (1, .int x1), (2, .int s0)] [1, 2, 0] (by decide) rfl ?_
  refine gw_aload_n C 48 dX6_serves_47 0 rfl rfl ?_
  refine gw_iload_n C 49 dX6_serves_48 1 rfl rfl ?_
  refine gw_iconst C 50 dX6_serves_49 (v := 0) (by decide) rfl ?_
  refine gw_iload_n C 51 dX6_serves_50 2 rfl rfl ?_
  refine gw_ineg C 52 dX6_serves_51 rfl ?_
  refine gw_cVv C 55 dX6_serves_52 rfl yv_X6_adds lk_X6_43 [.int x1, .int (0 : Int32), .int (-s0)] [] rfl (ct_X6_adds (E := E) (l := ps_l X) x1 (0 : Int32) (-s0) M hk.1) pm_recv rfl (Nat.le_of_ble_eq_true rfl) (Nat.le_of_ble_eq_true rfl) (Nat.le_of_ble_eq_true rfl) ?_
  refine gw_aload_n C 56 dX6_serves_55 0 rfl rfl ?_
  refine gw_iload_n C 57 dX6_serves_56 1 rfl rfl ?_
  refine gw_iconst C 58 dX6_serves_57 (v := 4) (by decide) rfl ?_
  refine gw_iload_n C 59 dX6_serves_58 2 rfl rfl ?_
  refine gw_ineg C 60 dX6_serves_59 rfl ?_
  refine gw_cVv C 63 dX6_serves_60 rfl yv_X6_adds lk_X6_43 [.int x1, .int (4 : Int32), .int (-s0)] [] rfl (ct_X6_adds (E := E) (l := ps_l X) x1 (4 : Int32) (-s0) (fv_X6_adds x1 (0 : Int32) (-s0) M) hk.2.1) pm_recv rfl (Nat.le_of_ble_eq_true rfl) (Nat.le_of_ble_eq_true rfl) (Nat.le_of_ble_eq_true rfl) ?_
  refine gw_aload_n C 64 dX6_serves_63 0 rfl rfl ?_
  refine gw_iload_n C 65 dX6_serves_64 1 rfl rfl ?_
  refine gw_iconst C 66 dX6_serves_65 (v := 2) (by decide) rfl ?_
  refine gw_iload_n C 67 dX6_serves_66 2 rfl rfl ?_
  refine gw_cVv C 70 dX6_serves_67 rfl yv_X6_adds lk_X6_43 [.int x1, .int (2 : Int32), .int s0] [] rfl (ct_X6_adds (E := E) (l := ps_l X) x1 (2 : Int32) s0 (fv_X6_adds x1 (4 : Int32) (-s0) (fv_X6_adds x1 (0 : Int32) (-s0) M)) hk.2.2.1) pm_recv rfl (Nat.le_of_ble_eq_true rfl) (Nat.le_of_ble_eq_true rfl) (Nat.le_of_ble_eq_true rfl) ?_
  refine gw_aload_n C 71 dX6_serves_70 0 rfl rfl ?_
  refine gw_iload_n C 72 dX6_serves_71 1 rfl rfl ?_
  refine gw_iconst C 73 dX6_serves_72 (v := 5) (by decide) rfl ?_
  refine gw_iload_n C 74 dX6_serves_73 2 rfl rfl ?_
  refine gw_cVv C 77 dX6_serves_74 rfl yv_X6_adds lk_X6_43 [.int x1, .int (5 : Int32), .int s0] [] rfl (ct_X6_adds (E := E) (l := ps_l X) x1 (5 : Int32) s0 (fv_X6_adds x1 (2 : Int32) s0 (fv_X6_adds x1 (4 : Int32) (-s0) (fv_X6_adds x1 (0 : Int32) (-s0) M))) hk.2.2.2.1) pm_recv rfl (Nat.le_of_ble_eq_true rfl) (Nat.le_of_ble_eq_true rfl) (Nat.le_of_ble_eq_true rfl) ?_
  refine gw_aload_n C 78 dX6_serves_77 0 rfl rfl ?_
  refine gw_iload_n C 79 dX6_serves_78 1 rfl rfl ?_
  refine gw_bipush C 81 dX6_serves_79 (v := 9) (by decide) rfl ?_
  refine gw_iload_n C 82 dX6_serves_81 2 rfl rfl ?_
  refine gw_cVv C 85 dX6_serves_82 rfl yv_X6_adds lk_X6_43 [.int x1, .int (9 : Int32), .int s0] [] rfl (ct_X6_adds (E := E) (l := ps_l X) x1 (9 : Int32) s0 (fv_X6_adds x1 (5 : Int32) s0 (fv_X6_adds x1 (2 : Int32) s0 (fv_X6_adds x1 (4 : Int32) (-s0) (fv_X6_adds x1 (0 : Int32) (-s0) M)))) hk.2.2.2.2.1) pm_recv rfl (Nat.le_of_ble_eq_true rfl) (Nat.le_of_ble_eq_true rfl) (Nat.le_of_ble_eq_true rfl) ?_
  exact bw_X6_serves_85 C RT  x1 s0 (fv_X6_adds x1 (9 : Int32) s0 (fv_X6_adds x1 (5 : Int32) s0 (fv_X6_adds x1 (2 : Int32) s0 (fv_X6_adds x1 (4 : Int32) (-s0) (fv_X6_adds x1 (0 : Int32) (-s0) M))))) hk.2.2.2.2.2
def fv_X6_serves_25 (x1 : Int32) (s0 : Int32) (M : ps_M) : Int32 × ps_M := if s0 ≤ (fv_X6_of x1 (4 : Int32) M) then (fv_X6_serves_46 x1 s0 M) else (fv_X6_serves_46 x1 (fv_X6_of x1 (4 : Int32) M) M)
def ok_X6_serves_25 (x1 : Int32) (s0 : Int32) (M : ps_M) : Prop := (ok_X6_of x1 (4 : Int32) M) ∧ ((s0 ≤ (fv_X6_of x1 (4 : Int32) M) → (ok_X6_serves_46 x1 s0 M)) ∧ (¬ (s0 ≤ (fv_X6_of x1 (4 : Int32) M)) → ((ok_X6_of x1 (4 : Int32) M) ∧ (ok_X6_serves_46 x1 (fv_X6_of x1 (4 : Int32) M) M))))
set_option maxRecDepth 100000 in
set_option maxHeartbeats 4000000 in
theorem bw_X6_serves_25 {E : ps_E} {X : ps_X (Int32 × ps_M)} (C : ps_C (pm_Y E) X cX6_serves RX6 (some .int) 2 45 3) (RT : ps_RI (pm_Y E) X cX6_serves .int) (x1 : Int32) (s0 : Int32) (M : ps_M) (hk : ok_X6_serves_25 x1 s0 M) : ps_G (pm_Y E) X (fv_X6_serves_25 x1 s0 M) 25 [(0, .ref (ps_ad E 0)), (1, .int x1)] [.int s0] M := by
  unfold fv_X6_serves_25
  unfold ok_X6_serves_25 at hk
  refine gw_istore_n C 26 dX6_serves_25 rfl [(0, .ref (ps_ad E 0)), (1, .int x1), (2, .int s0)] [1, 2, 0] (by decide) rfl ?_
  refine gw_aload_n C 27 dX6_serves_26 0 rfl rfl ?_
  refine gw_iload_n C 28 dX6_serves_27 1 rfl rfl ?_
  refine gw_iconst C 29 dX6_serves_28 (v := 4) (by decide) rfl ?_
  refine gw_cVp C 32 dX6_serves_29 rfl yv_X6_of lk_X6_54 [.int x1, .int (4 : Int32)] [] rfl (ct_X6_of (E := E) (l := ps_l X) x1 (4 : Int32) M hk.1) pm_recv rfl (Nat.le_of_ble_eq_true rfl) (Nat.le_of_ble_eq_true rfl) (Nat.le_of_ble_eq_true rfl) ?_
  refine gw_iload_n C 33 dX6_serves_32 2 rfl rfl ?_
  refine gw_ic_ge C 45 36 dX6_serves_33 (by decide) rfl (fun c33 => ?_) (fun c33 => ?_)
  · refine gw_iload_n C 46 dX6_serves_45 2 rfl rfl ?_
    refine gw_sub C [(0, .ref (ps_ad E 0)), (1, .int x1)] [0, 1] rfl ?_
    exact bw_X6_serves_46 C RT  x1 s0 M (hk.2.1 c33)
  · refine gw_aload_n C 37 dX6_serves_36 0 rfl rfl ?_
    refine gw_iload_n C 38 dX6_serves_37 1 rfl rfl ?_
    refine gw_iconst C 39 dX6_serves_38 (v := 4) (by decide) rfl ?_
    refine gw_cVp C 42 dX6_serves_39 rfl yv_X6_of lk_X6_54 [.int x1, .int (4 : Int32)] [] rfl (ct_X6_of (E := E) (l := ps_l X) x1 (4 : Int32) M (hk.2.2 c33).1) pm_recv rfl (Nat.le_of_ble_eq_true rfl) (Nat.le_of_ble_eq_true rfl) (Nat.le_of_ble_eq_true rfl) ?_
    refine gw_goto C 46 dX6_serves_42 (by decide) ?_
    refine gw_sub C [(0, .ref (ps_ad E 0)), (1, .int x1)] [0, 1] rfl ?_
    exact bw_X6_serves_46 C RT  x1 (fv_X6_of x1 (4 : Int32) M) M (hk.2.2 c33).2
def fv_X6_serves (x1 : Int32) (M : ps_M) : Int32 × ps_M := if (fv_X6_of x1 (0 : Int32) M) ≤ (fv_X6_serveAt x1 M) then (fv_X6_serves_25 x1 (fv_X6_of x1 (0 : Int32) M) M) else (fv_X6_serves_25 x1 (fv_X6_serveAt x1 M) M)
def ok_X6_serves (x1 : Int32) (M : ps_M) : Prop := (ok_X6_of x1 (0 : Int32) M) ∧ ((ok_X6_serveAt x1 M) ∧ (((fv_X6_of x1 (0 : Int32) M) ≤ (fv_X6_serveAt x1 M) → (ok_X6_serves_25 x1 (fv_X6_of x1 (0 : Int32) M) M)) ∧ (¬ ((fv_X6_of x1 (0 : Int32) M) ≤ (fv_X6_serveAt x1 M)) → ((ok_X6_serveAt x1 M) ∧ (ok_X6_serves_25 x1 (fv_X6_serveAt x1 M) M)))))
set_option maxRecDepth 100000 in
set_option maxHeartbeats 4000000 in
theorem bw_X6_serves {E : ps_E} {X : ps_X (Int32 × ps_M)} (C : ps_C (pm_Y E) X cX6_serves RX6 (some .int) 2 45 3) (RT : ps_RI (pm_Y E) X cX6_serves .int) (x1 : Int32) (M : ps_M) (hk : ok_X6_serves x1 M) : ps_G (pm_Y E) X (fv_X6_serves x1 M) 0 [(0, .ref (ps_ad E 0)), (1, .int x1)] [] M := by
  unfold fv_X6_serves
  unfold ok_X6_serves at hk
  refine gw_aload_n C 1 dX6_serves_0 0 rfl rfl ?_
  refine gw_iload_n C 2 dX6_serves_1 1 rfl rfl ?_
  refine gw_iconst C 3 dX6_serves_2 (v := 0) (by decide) rfl ?_
  refine gw_cVp C 6 dX6_serves_3 rfl yv_X6_of lk_X6_54 [.int x1, .int (0 : Int32)] [] rfl (ct_X6_of (E := E) (l := ps_l X) x1 (0 : Int32) M hk.1) pm_recv rfl (Nat.le_of_ble_eq_true rfl) (Nat.le_of_ble_eq_true rfl) (Nat.le_of_ble_eq_true rfl) ?_
  refine gw_istore_n C 7 dX6_serves_6 rfl [(0, .ref (ps_ad E 0)), (1, .int x1), (2, .int (fv_X6_of x1 (0 : Int32) M))] [1, 2, 0] (by decide) rfl ?_
  refine gw_aload_n C 8 dX6_serves_7 0 rfl rfl ?_
  refine gw_iload_n C 9 dX6_serves_8 1 rfl rfl ?_
  refine gw_cVp C 12 dX6_serves_9 rfl yv_X6_serveAt lk_X6_78 [.int x1] [] rfl (ct_X6_serveAt (E := E) (l := ps_l X) x1 M hk.2.1) pm_recv rfl (Nat.le_of_ble_eq_true rfl) (Nat.le_of_ble_eq_true rfl) (Nat.le_of_ble_eq_true rfl) ?_
  refine gw_iload_n C 13 dX6_serves_12 2 rfl rfl ?_
  refine gw_ic_ge C 24 16 dX6_serves_13 (by decide) rfl (fun c13 => ?_) (fun c13 => ?_)
  · refine gw_iload_n C 25 dX6_serves_24 2 rfl rfl ?_
    refine gw_sub C [(0, .ref (ps_ad E 0)), (1, .int x1)] [0, 1] rfl ?_
    exact bw_X6_serves_25 C RT  x1 (fv_X6_of x1 (0 : Int32) M) M (hk.2.2.1 c13)
  · refine gw_aload_n C 17 dX6_serves_16 0 rfl rfl ?_
    refine gw_iload_n C 18 dX6_serves_17 1 rfl rfl ?_
    refine gw_cVp C 21 dX6_serves_18 rfl yv_X6_serveAt lk_X6_78 [.int x1] [] rfl (ct_X6_serveAt (E := E) (l := ps_l X) x1 M (hk.2.2.2 c13).1) pm_recv rfl (Nat.le_of_ble_eq_true rfl) (Nat.le_of_ble_eq_true rfl) (Nat.le_of_ble_eq_true rfl) ?_
    refine gw_goto C 25 dX6_serves_21 (by decide) ?_
    refine gw_sub C [(0, .ref (ps_ad E 0)), (1, .int x1)] [0, 1] rfl ?_
    exact bw_X6_serves_25 C RT  x1 (fv_X6_serveAt x1 M) M (hk.2.2.2 c13).2
theorem ct_X6_serves {E : ps_E} {l : Launch} (x1 : Int32)  (M : ps_M) (hk : ok_X6_serves x1 M) : ps_CI (pm_Y E) l yX6_serves cX6_serves 3 (some .int) 2 45 [.ref (ps_ad E 0), .int x1] M (fv_X6_serves x1 M) := ps_metI RX6 (by decide) rfl (Nat.le_of_ble_eq_true rfl) rfl (fun X _ C RT => bw_X6_serves C RT x1 M hk)
def fv_X6_takesTurns_64 (rec2 : Int32 → ps_M → ps_M) (x1 : Int32) (M : ps_M) : ps_M := rec2 (x1 + (1 : Int32)) M
def ok_X6_takesTurns_64 (rec2 : Int32 → ps_M → ps_M) (okr2 : Int32 → ps_M → Prop) (x1 : Int32) (M : ps_M) : Prop := okr2 (x1 + (1 : Int32)) M
set_option maxRecDepth 100000 in
set_option maxHeartbeats 4000000 in
theorem bw_X6_takesTurns_64 {E : ps_E} {X : ps_X ps_M} (C : ps_C (pm_Y E) X cX6_takesTurns RX6 none 4 90 4) (RT : ps_RV (pm_Y E) X cX6_takesTurns) (rec2 : Int32 → ps_M → ps_M) (okr2 : Int32 → ps_M → Prop) (hr2 : ∀ (x1 : Int32)  (M : ps_M), okr2 x1 M → ps_G (pm_Y E) X (rec2 x1 M) 2 [(0, .ref (ps_ad E 0)), (1, .int x1)] [] M) (x1 : Int32) (M : ps_M) (hk : ok_X6_takesTurns_64 rec2 okr2 x1 M) : ps_G (pm_Y E) X (fv_X6_takesTurns_64 rec2 x1 M) 64 [(0, .ref (ps_ad E 0)), (1, .int x1)] [] M := by
  unfold fv_X6_takesTurns_64
  unfold ok_X6_takesTurns_64 at hk
  refine gw_iinc C 67 dX6_takesTurns_64 rfl (y := 1) (by decide) rfl 1 rfl [(0, .ref (ps_ad E 0)), (1, .int (x1 + (1 : Int32)))] [1, 0] (by decide) rfl ?_
  refine gw_goto C 2 dX6_takesTurns_67 (by decide) ?_
  exact hr2 (x1 + (1 : Int32)) M hk
def fv_X6_takesTurns_2 : Nat → Int32 → ps_M → ps_M
  | 0, _, M => M
  | n + 1, x1, M => if (M 1 ((2 : Int32)).toNatClampNeg) ≤ x1 then M else (if (fv_X6_ofClerk x1 (2 : Int32) M) = (-1 : Int32) then (fv_X6_takesTurns_2 n (x1 + (1 : Int32)) M) else (if (fv_X6_ofClerk x1 (3 : Int32) M) = (fv_X6_ofClerk x1 (1 : Int32) M) then (if (fv_X6_freeAt (0 : Int32) (fv_X6_leaves x1 (2 : Int32) M)) = (-5 : Int32) then (fv_X6_takesTurns_2 n (x1 + (1 : Int32)) (fv_X6_leaves x1 (2 : Int32) M)) else (fv_X6_takesTurns_64 (fun a1 M => fv_X6_takesTurns_2 n a1 M) x1 (fv_X6_laysClerk (fv_X6_freeAt (0 : Int32) (fv_X6_leaves x1 (2 : Int32) M)) (2 : Int32) (fv_X6_ofClerk x1 (2 : Int32) M) (fv_X6_leaves x1 (2 : Int32) M)))) else (fv_X6_takesTurns_64 (fun a1 M => fv_X6_takesTurns_2 n a1 M) x1 M)))
theorem fv_X6_takesTurns_2_s (n : Nat) (x1 : Int32) (M : ps_M) : fv_X6_takesTurns_2 (n + 1) x1 M = (if (M 1 ((2 : Int32)).toNatClampNeg) ≤ x1 then M else (if (fv_X6_ofClerk x1 (2 : Int32) M) = (-1 : Int32) then (fv_X6_takesTurns_2 n (x1 + (1 : Int32)) M) else (if (fv_X6_ofClerk x1 (3 : Int32) M) = (fv_X6_ofClerk x1 (1 : Int32) M) then (if (fv_X6_freeAt (0 : Int32) (fv_X6_leaves x1 (2 : Int32) M)) = (-5 : Int32) then (fv_X6_takesTurns_2 n (x1 + (1 : Int32)) (fv_X6_leaves x1 (2 : Int32) M)) else (fv_X6_takesTurns_64 (fun a1 M => fv_X6_takesTurns_2 n a1 M) x1 (fv_X6_laysClerk (fv_X6_freeAt (0 : Int32) (fv_X6_leaves x1 (2 : Int32) M)) (2 : Int32) (fv_X6_ofClerk x1 (2 : Int32) M) (fv_X6_leaves x1 (2 : Int32) M)))) else (fv_X6_takesTurns_64 (fun a1 M => fv_X6_takesTurns_2 n a1 M) x1 M)))) := rfl
def ok_X6_takesTurns_2 : Nat → Int32 → ps_M → Prop
  | 0, _, _ => False
  | n + 1, x1, M => (vp_in (2 : Int32) 237) ∧ (((M 1 ((2 : Int32)).toNatClampNeg) ≤ x1 → True) ∧ (¬ ((M 1 ((2 : Int32)).toNatClampNeg) ≤ x1) → ((ok_X6_ofClerk x1 (2 : Int32) M) ∧ (((fv_X6_ofClerk x1 (2 : Int32) M) = (-1 : Int32) → (ok_X6_takesTurns_2 n (x1 + (1 : Int32)) M)) ∧ (¬ ((fv_X6_ofClerk x1 (2 : Int32) M) = (-1 : Int32)) → ((ok_X6_ofClerk x1 (3 : Int32) M) ∧ ((ok_X6_ofClerk x1 (1 : Int32) M) ∧ (((fv_X6_ofClerk x1 (3 : Int32) M) = (fv_X6_ofClerk x1 (1 : Int32) M) → ((ok_X6_leaves x1 (2 : Int32) M) ∧ ((ok_X6_freeAt (0 : Int32) (fv_X6_leaves x1 (2 : Int32) M)) ∧ (((fv_X6_freeAt (0 : Int32) (fv_X6_leaves x1 (2 : Int32) M)) = (-5 : Int32) → (ok_X6_takesTurns_2 n (x1 + (1 : Int32)) (fv_X6_leaves x1 (2 : Int32) M))) ∧ (¬ ((fv_X6_freeAt (0 : Int32) (fv_X6_leaves x1 (2 : Int32) M)) = (-5 : Int32)) → ((ok_X6_laysClerk (fv_X6_freeAt (0 : Int32) (fv_X6_leaves x1 (2 : Int32) M)) (2 : Int32) (fv_X6_ofClerk x1 (2 : Int32) M) (fv_X6_leaves x1 (2 : Int32) M)) ∧ (ok_X6_takesTurns_64 (fun a1 M => fv_X6_takesTurns_2 n a1 M) (fun a1 M => ok_X6_takesTurns_2 n a1 M) x1 (fv_X6_laysClerk (fv_X6_freeAt (0 : Int32) (fv_X6_leaves x1 (2 : Int32) M)) (2 : Int32) (fv_X6_ofClerk x1 (2 : Int32) M) (fv_X6_leaves x1 (2 : Int32) M))))))))) ∧ (¬ ((fv_X6_ofClerk x1 (3 : Int32) M) = (fv_X6_ofClerk x1 (1 : Int32) M)) → (ok_X6_takesTurns_64 (fun a1 M => fv_X6_takesTurns_2 n a1 M) (fun a1 M => ok_X6_takesTurns_2 n a1 M) x1 M))))))))))
theorem ok_X6_takesTurns_2_s (n : Nat) (x1 : Int32) (M : ps_M) : ok_X6_takesTurns_2 (n + 1) x1 M = ((vp_in (2 : Int32) 237) ∧ (((M 1 ((2 : Int32)).toNatClampNeg) ≤ x1 → True) ∧ (¬ ((M 1 ((2 : Int32)).toNatClampNeg) ≤ x1) → ((ok_X6_ofClerk x1 (2 : Int32) M) ∧ (((fv_X6_ofClerk x1 (2 : Int32) M) = (-1 : Int32) → (ok_X6_takesTurns_2 n (x1 + (1 : Int32)) M)) ∧ (¬ ((fv_X6_ofClerk x1 (2 : Int32) M) = (-1 : Int32)) → ((ok_X6_ofClerk x1 (3 : Int32) M) ∧ ((ok_X6_ofClerk x1 (1 : Int32) M) ∧ (((fv_X6_ofClerk x1 (3 : Int32) M) = (fv_X6_ofClerk x1 (1 : Int32) M) → ((ok_X6_leaves x1 (2 : Int32) M) ∧ ((ok_X6_freeAt (0 : Int32) (fv_X6_leaves x1 (2 : Int32) M)) ∧ (((fv_X6_freeAt (0 : Int32) (fv_X6_leaves x1 (2 : Int32) M)) = (-5 : Int32) → (ok_X6_takesTurns_2 n (x1 + (1 : Int32)) (fv_X6_leaves x1 (2 : Int32) M))) ∧ (¬ ((fv_X6_freeAt (0 : Int32) (fv_X6_leaves x1 (2 : Int32) M)) = (-5 : Int32)) → ((ok_X6_laysClerk (fv_X6_freeAt (0 : Int32) (fv_X6_leaves x1 (2 : Int32) M)) (2 : Int32) (fv_X6_ofClerk x1 (2 : Int32) M) (fv_X6_leaves x1 (2 : Int32) M)) ∧ (ok_X6_takesTurns_64 (fun a1 M => fv_X6_takesTurns_2 n a1 M) (fun a1 M => ok_X6_takesTurns_2 n a1 M) x1 (fv_X6_laysClerk (fv_X6_freeAt (0 : Int32) (fv_X6_leaves x1 (2 : Int32) M)) (2 : Int32) (fv_X6_ofClerk x1 (2 : Int32) M) (fv_X6_leaves x1 (2 : Int32) M))))))))) ∧ (¬ ((fv_X6_ofClerk x1 (3 : Int32) M) = (fv_X6_ofClerk x1 (1 : Int32) M)) → (ok_X6_takesTurns_64 (fun a1 M => fv_X6_takesTurns_2 n a1 M) (fun a1 M => ok_X6_takesTurns_2 n a1 M) x1 M))))))))))) := rfl
set_option maxRecDepth 100000 in
set_option maxHeartbeats 4000000 in
theorem bw_X6_takesTurns_2 {E : ps_E} {X : ps_X ps_M} (C : ps_C (pm_Y E) X cX6_takesTurns RX6 none 4 90 4) (RT : ps_RV (pm_Y E) X cX6_takesTurns) : ∀ (n : Nat) (x1 : Int32) (M : ps_M), ok_X6_takesTurns_2 n x1 M → ps_G (pm_Y E) X (fv_X6_takesTurns_2 n x1 M) 2 [(0, .ref (ps_ad E 0)), (1, .int x1)] [] M := by
  intro n
  induction n with
  | zero => intro x1 M h; exact h.elim
  | succ n ih =>
    intro x1 M hk
    rw [fv_X6_takesTurns_2_s]
    rw [ok_X6_takesTurns_2_s] at hk
    refine gw_iload_n C 3 dX6_takesTurns_2 1 rfl rfl ?_
    refine gw_aload_n C 4 dX6_takesTurns_3 0 rfl rfl ?_
    refine gf_X6_7 C 7 dX6_takesTurns_4 rfl ?_
    refine gw_iconst C 8 dX6_takesTurns_7 (v := 2) (by decide) rfl ?_
    refine gm_ld C 9 dX6_takesTurns_8 rfl (by decide) hk.1 ?_
    refine gw_ic_ge C 70 12 dX6_takesTurns_9 (by decide) rfl (fun c9 => ?_) (fun c9 => ?_)
    · exact RT _ _ _ dX6_takesTurns_70
    · refine gw_aload_n C 13 dX6_takesTurns_12 0 rfl rfl ?_
      refine gw_iload_n C 14 dX6_takesTurns_13 1 rfl rfl ?_
      refine gw_iconst C 15 dX6_takesTurns_14 (v := 2) (by decide) rfl ?_
      refine gw_cVp C 18 dX6_takesTurns_15 rfl yv_X6_ofClerk lk_X6_58 [.int x1, .int (2 : Int32)] [] rfl (ct_X6_ofClerk (E := E) (l := ps_l X) x1 (2 : Int32) M (hk.2.2 c9).1) pm_recv rfl (Nat.le_of_ble_eq_true rfl) (Nat.le_of_ble_eq_true rfl) (Nat.le_of_ble_eq_true rfl) ?_
      refine gw_istore_n C 19 dX6_takesTurns_18 rfl [(0, .ref (ps_ad E 0)), (1, .int x1), (2, .int (fv_X6_ofClerk x1 (2 : Int32) M))] [1, 2, 0] (by decide) rfl ?_
      refine gw_iload_n C 20 dX6_takesTurns_19 2 rfl rfl ?_
      refine gw_iconst C 21 dX6_takesTurns_20 (v := (-1)) (by decide) rfl ?_
      refine gw_ic_eq C 64 24 dX6_takesTurns_21 (by decide) rfl (fun c21 => ?_) (fun c21 => ?_)
      · refine gw_iinc C 67 dX6_takesTurns_64 rfl (y := 1) (by decide) rfl 1 rfl [(0, .ref (ps_ad E 0)), (1, .int (x1 + (1 : Int32))), (2, .int (fv_X6_ofClerk x1 (2 : Int32) M))] [1, 0, 2] (by decide) rfl ?_
        refine gw_goto C 2 dX6_takesTurns_67 (by decide) ?_
        refine gw_sub C [(0, .ref (ps_ad E 0)), (1, .int (x1 + (1 : Int32)))] [0, 1] rfl ?_
        exact ih (x1 + (1 : Int32)) M ((hk.2.2 c9).2.1 c21)
      · refine gw_aload_n C 25 dX6_takesTurns_24 0 rfl rfl ?_
        refine gw_iload_n C 26 dX6_takesTurns_25 1 rfl rfl ?_
        refine gw_iconst C 27 dX6_takesTurns_26 (v := 3) (by decide) rfl ?_
        refine gw_cVp C 30 dX6_takesTurns_27 rfl yv_X6_ofClerk lk_X6_58 [.int x1, .int (3 : Int32)] [] rfl (ct_X6_ofClerk (E := E) (l := ps_l X) x1 (3 : Int32) M ((hk.2.2 c9).2.2 c21).1) pm_recv rfl (Nat.le_of_ble_eq_true rfl) (Nat.le_of_ble_eq_true rfl) (Nat.le_of_ble_eq_true rfl) ?_
        refine gw_aload_n C 31 dX6_takesTurns_30 0 rfl rfl ?_
        refine gw_iload_n C 32 dX6_takesTurns_31 1 rfl rfl ?_
        refine gw_iconst C 33 dX6_takesTurns_32 (v := 1) (by decide) rfl ?_
        refine gw_cVp C 36 dX6_takesTurns_33 rfl yv_X6_ofClerk lk_X6_58 [.int x1, .int (1 : Int32)] [.int (fv_X6_ofClerk x1 (3 : Int32) M)] rfl (ct_X6_ofClerk (E := E) (l := ps_l X) x1 (1 : Int32) M ((hk.2.2 c9).2.2 c21).2.1) pm_recv rfl (Nat.le_of_ble_eq_true rfl) (Nat.le_of_ble_eq_true rfl) (Nat.le_of_ble_eq_true rfl) ?_
        refine gw_ic_ne C 64 39 dX6_takesTurns_36 (by decide) rfl (fun c36 => ?_) (fun c36 => ?_)
        · refine gw_aload_n C 40 dX6_takesTurns_39 0 rfl rfl ?_
          refine gw_iload_n C 41 dX6_takesTurns_40 1 rfl rfl ?_
          refine gw_iconst C 42 dX6_takesTurns_41 (v := 2) (by decide) rfl ?_
          refine gw_cVv C 45 dX6_takesTurns_42 rfl yv_X6_leaves lk_X6_74 [.int x1, .int (2 : Int32)] [] rfl (ct_X6_leaves (E := E) (l := ps_l X) x1 (2 : Int32) M (((hk.2.2 c9).2.2 c21).2.2.1 c36).1) pm_recv rfl (Nat.le_of_ble_eq_true rfl) (Nat.le_of_ble_eq_true rfl) (Nat.le_of_ble_eq_true rfl) ?_
          refine gw_aload_n C 46 dX6_takesTurns_45 0 rfl rfl ?_
          refine gw_iconst C 47 dX6_takesTurns_46 (v := 0) (by decide) rfl ?_
          refine gw_cVp C 50 dX6_takesTurns_47 rfl yv_X6_freeAt lk_X6_81 [.int (0 : Int32)] [] rfl (ct_X6_freeAt (E := E) (l := ps_l X) (0 : Int32) (fv_X6_leaves x1 (2 : Int32) M) (((hk.2.2 c9).2.2 c21).2.2.1 c36).2.1) pm_recv rfl (Nat.le_of_ble_eq_true rfl) (Nat.le_of_ble_eq_true rfl) (Nat.le_of_ble_eq_true rfl) ?_
          refine gw_istore_n C 51 dX6_takesTurns_50 rfl [(0, .ref (ps_ad E 0)), (1, .int x1), (2, .int (fv_X6_ofClerk x1 (2 : Int32) M)), (3, .int (fv_X6_freeAt (0 : Int32) (fv_X6_leaves x1 (2 : Int32) M)))] [1, 2, 3, 0] (by decide) rfl ?_
          refine gw_iload_n C 52 dX6_takesTurns_51 3 rfl rfl ?_
          refine gw_bipush C 54 dX6_takesTurns_52 (v := (-5)) (by decide) rfl ?_
          refine gw_ic_eq C 64 57 dX6_takesTurns_54 (by decide) rfl (fun c54 => ?_) (fun c54 => ?_)
          · refine gw_iinc C 67 dX6_takesTurns_64 rfl (y := 1) (by decide) rfl 1 rfl [(0, .ref (ps_ad E 0)), (1, .int (x1 + (1 : Int32))), (2, .int (fv_X6_ofClerk x1 (2 : Int32) M)), (3, .int (fv_X6_freeAt (0 : Int32) (fv_X6_leaves x1 (2 : Int32) M)))] [1, 0, 2, 3] (by decide) rfl ?_
            refine gw_goto C 2 dX6_takesTurns_67 (by decide) ?_
            refine gw_sub C [(0, .ref (ps_ad E 0)), (1, .int (x1 + (1 : Int32)))] [0, 1] rfl ?_
            exact ih (x1 + (1 : Int32)) (fv_X6_leaves x1 (2 : Int32) M) ((((hk.2.2 c9).2.2 c21).2.2.1 c36).2.2.1 c54)
          · refine gw_aload_n C 58 dX6_takesTurns_57 0 rfl rfl ?_
            refine gw_iload_n C 59 dX6_takesTurns_58 3 rfl rfl ?_
            refine gw_iconst C 60 dX6_takesTurns_59 (v := 2) (by decide) rfl ?_
            refine gw_iload_n C 61 dX6_takesTurns_60 2 rfl rfl ?_
            refine gw_cVv C 64 dX6_takesTurns_61 rfl yv_X6_laysClerk lk_X6_47 [.int (fv_X6_freeAt (0 : Int32) (fv_X6_leaves x1 (2 : Int32) M)), .int (2 : Int32), .int (fv_X6_ofClerk x1 (2 : Int32) M)] [] rfl (ct_X6_laysClerk (E := E) (l := ps_l X) (fv_X6_freeAt (0 : Int32) (fv_X6_leaves x1 (2 : Int32) M)) (2 : Int32) (fv_X6_ofClerk x1 (2 : Int32) M) (fv_X6_leaves x1 (2 : Int32) M) ((((hk.2.2 c9).2.2 c21).2.2.1 c36).2.2.2 c54).1) pm_recv rfl (Nat.le_of_ble_eq_true rfl) (Nat.le_of_ble_eq_true rfl) (Nat.le_of_ble_eq_true rfl) ?_
            refine gw_sub C [(0, .ref (ps_ad E 0)), (1, .int x1)] [0, 1] rfl ?_
            exact bw_X6_takesTurns_64 C RT _ _ (fun a1  M h => ih a1  M h) x1 (fv_X6_laysClerk (fv_X6_freeAt (0 : Int32) (fv_X6_leaves x1 (2 : Int32) M)) (2 : Int32) (fv_X6_ofClerk x1 (2 : Int32) M) (fv_X6_leaves x1 (2 : Int32) M)) ((((hk.2.2 c9).2.2 c21).2.2.1 c36).2.2.2 c54).2
        · refine gw_sub C [(0, .ref (ps_ad E 0)), (1, .int x1)] [0, 1] rfl ?_
          exact bw_X6_takesTurns_64 C RT _ _ (fun a1  M h => ih a1  M h) x1 M (((hk.2.2 c9).2.2 c21).2.2.2 c36)
def fv_X6_takesTurns  (M : ps_M) : ps_M := fv_X6_takesTurns_2 ps_FU (0 : Int32) M
def ok_X6_takesTurns  (M : ps_M) : Prop := ok_X6_takesTurns_2 ps_FU (0 : Int32) M
set_option maxRecDepth 100000 in
set_option maxHeartbeats 4000000 in
theorem bw_X6_takesTurns {E : ps_E} {X : ps_X ps_M} (C : ps_C (pm_Y E) X cX6_takesTurns RX6 none 4 90 4) (RT : ps_RV (pm_Y E) X cX6_takesTurns)  (M : ps_M) (hk : ok_X6_takesTurns  M) : ps_G (pm_Y E) X (fv_X6_takesTurns  M) 0 [(0, .ref (ps_ad E 0))] [] M := by
  unfold fv_X6_takesTurns
  unfold ok_X6_takesTurns at hk
  refine gw_iconst C 1 dX6_takesTurns_0 (v := 0) (by decide) rfl ?_
  refine gw_istore_n C 2 dX6_takesTurns_1 rfl [(0, .ref (ps_ad E 0)), (1, .int (0 : Int32))] [1, 0] (by decide) rfl ?_
  exact bw_X6_takesTurns_2 C RT  ps_FU (0 : Int32) M hk
theorem ct_X6_takesTurns {E : ps_E} {l : Launch}   (M : ps_M) (hk : ok_X6_takesTurns  M) : ps_CV (pm_Y E) l yX6_takesTurns cX6_takesTurns 4 4 90 [.ref (ps_ad E 0)] M (fv_X6_takesTurns  M) := ps_metV RX6 (by decide) rfl (Nat.le_of_ble_eq_true rfl) rfl (fun X _ C RT => bw_X6_takesTurns C RT M hk)
def fv_X6_hourPasses_158 (rec83 : Int32 → Int32 → ps_M → Int32 × ps_M) (x1 : Int32) (x2 : Int32) (x4 : Int32) (s3 : Int32) (s2 : Int32) (s1 : Int32) (M : ps_M) : Int32 × ps_M := if x4 = (2 : Int32) then (rec83 x1 (x2 + (1 : Int32)) (fv_X6_laysClerk x2 (5 : Int32) (1 : Int32) (fv_X6_laysClerk s1 s2 s3 M))) else (rec83 x1 (x2 + (1 : Int32)) (fv_X6_laysClerk x2 (5 : Int32) (0 : Int32) (fv_X6_laysClerk s1 s2 s3 M)))
def ok_X6_hourPasses_158 (rec83 : Int32 → Int32 → ps_M → Int32 × ps_M) (okr83 : Int32 → Int32 → ps_M → Prop) (x1 : Int32) (x2 : Int32) (x4 : Int32) (s3 : Int32) (s2 : Int32) (s1 : Int32) (M : ps_M) : Prop := (ok_X6_laysClerk s1 s2 s3 M) ∧ ((x4 = (2 : Int32) → ((ok_X6_laysClerk x2 (5 : Int32) (1 : Int32) (fv_X6_laysClerk s1 s2 s3 M)) ∧ (okr83 x1 (x2 + (1 : Int32)) (fv_X6_laysClerk x2 (5 : Int32) (1 : Int32) (fv_X6_laysClerk s1 s2 s3 M))))) ∧ (¬ (x4 = (2 : Int32)) → ((ok_X6_laysClerk x2 (5 : Int32) (0 : Int32) (fv_X6_laysClerk s1 s2 s3 M)) ∧ (okr83 x1 (x2 + (1 : Int32)) (fv_X6_laysClerk x2 (5 : Int32) (0 : Int32) (fv_X6_laysClerk s1 s2 s3 M))))))
set_option maxRecDepth 100000 in
set_option maxHeartbeats 4000000 in
theorem bw_X6_hourPasses_158 {E : ps_E} {X : ps_X (Int32 × ps_M)} (C : ps_C (pm_Y E) X cX6_hourPasses RX6 (some .int) 5 113 5) (RT : ps_RI (pm_Y E) X cX6_hourPasses .int) (rec83 : Int32 → Int32 → ps_M → Int32 × ps_M) (okr83 : Int32 → Int32 → ps_M → Prop) (hr83 : ∀ (x1 : Int32) (x2 : Int32)  (M : ps_M), okr83 x1 x2 M → ps_G (pm_Y E) X (rec83 x1 x2 M) 83 [(0, .ref (ps_ad E 0)), (1, .int x1), (2, .int x2)] [] M) (x1 : Int32) (x2 : Int32) (x4 : Int32) (s3 : Int32) (s2 : Int32) (s1 : Int32) (M : ps_M) (hk : ok_X6_hourPasses_158 rec83 okr83 x1 x2 x4 s3 s2 s1 M) : ps_G (pm_Y E) X (fv_X6_hourPasses_158 rec83 x1 x2 x4 s3 s2 s1 M) 158 [(0, .ref (ps_ad E 0)), (1, .int x1), (2, .int x2), (4, .int x4)] [.int s3, .int s2, .int s1, .ref (ps_ad E 0)] M := by
  unfold fv_X6_hourPasses_158
  unfold ok_X6_hourPasses_158 at hk
  refine gw_cVv C 161 dX6_hourPasses_158 rfl yv_X6_laysClerk lk_X6_47 [.int s1, .int s2, .int s3] [] rfl (ct_X6_laysClerk (E := E) (l := ps_l X) s1 s2 s3 M hk.1) pm_recv rfl (Nat.le_of_ble_eq_true rfl) (Nat.le_of_ble_eq_true rfl) (Nat.le_of_ble_eq_true rfl) ?_
  refine gw_aload_n C 162 dX6_hourPasses_161 0 rfl rfl ?_
  refine gw_iload_n C 163 dX6_hourPasses_162 2 rfl rfl ?_
  refine gw_iconst C 164 dX6_hourPasses_163 (v := 5) (by decide) rfl ?_
  refine gw_iload C 166 dX6_hourPasses_164 3 rfl rfl ?_
  refine gw_iconst C 167 dX6_hourPasses_166 (v := 2) (by decide) rfl ?_
  refine gw_ic_ne C 174 170 dX6_hourPasses_167 (by decide) rfl (fun c167 => ?_) (fun c167 => ?_)
  · refine gw_iconst C 171 dX6_hourPasses_170 (v := 1) (by decide) rfl ?_
    refine gw_goto C 175 dX6_hourPasses_171 (by decide) ?_
    refine gw_cVv C 178 dX6_hourPasses_175 rfl yv_X6_laysClerk lk_X6_47 [.int x2, .int (5 : Int32), .int (1 : Int32)] [] rfl (ct_X6_laysClerk (E := E) (l := ps_l X) x2 (5 : Int32) (1 : Int32) (fv_X6_laysClerk s1 s2 s3 M) (hk.2.1 c167).1) pm_recv rfl (Nat.le_of_ble_eq_true rfl) (Nat.le_of_ble_eq_true rfl) (Nat.le_of_ble_eq_true rfl) ?_
    refine gw_iinc C 181 dX6_hourPasses_178 rfl (y := 1) (by decide) rfl 2 rfl [(0, .ref (ps_ad E 0)), (1, .int x1), (2, .int (x2 + (1 : Int32))), (4, .int x4)] [1, 2, 0, 3] (by decide) rfl ?_
    refine gw_goto C 83 dX6_hourPasses_181 (by decide) ?_
    refine gw_sub C [(0, .ref (ps_ad E 0)), (1, .int x1), (2, .int (x2 + (1 : Int32)))] [0, 1, 2] rfl ?_
    exact hr83 x1 (x2 + (1 : Int32)) (fv_X6_laysClerk x2 (5 : Int32) (1 : Int32) (fv_X6_laysClerk s1 s2 s3 M)) (hk.2.1 c167).2
  · refine gw_iconst C 175 dX6_hourPasses_174 (v := 0) (by decide) rfl ?_
    refine gw_cVv C 178 dX6_hourPasses_175 rfl yv_X6_laysClerk lk_X6_47 [.int x2, .int (5 : Int32), .int (0 : Int32)] [] rfl (ct_X6_laysClerk (E := E) (l := ps_l X) x2 (5 : Int32) (0 : Int32) (fv_X6_laysClerk s1 s2 s3 M) (hk.2.2 c167).1) pm_recv rfl (Nat.le_of_ble_eq_true rfl) (Nat.le_of_ble_eq_true rfl) (Nat.le_of_ble_eq_true rfl) ?_
    refine gw_iinc C 181 dX6_hourPasses_178 rfl (y := 1) (by decide) rfl 2 rfl [(0, .ref (ps_ad E 0)), (1, .int x1), (2, .int (x2 + (1 : Int32))), (4, .int x4)] [1, 2, 0, 3] (by decide) rfl ?_
    refine gw_goto C 83 dX6_hourPasses_181 (by decide) ?_
    refine gw_sub C [(0, .ref (ps_ad E 0)), (1, .int x1), (2, .int (x2 + (1 : Int32)))] [0, 1, 2] rfl ?_
    exact hr83 x1 (x2 + (1 : Int32)) (fv_X6_laysClerk x2 (5 : Int32) (0 : Int32) (fv_X6_laysClerk s1 s2 s3 M)) (hk.2.2 c167).2
def fv_X6_hourPasses_135 (rec83 : Int32 → Int32 → ps_M → Int32 × ps_M) (x1 : Int32) (x2 : Int32) (x3 : Int32) (x4 : Int32) (s4 : Int32) (s3 : Int32) (s2 : Int32) (s1 : Int32) (M : ps_M) : Int32 × ps_M := if x3 = 0 then (fv_X6_hourPasses_158 rec83 x1 x2 x4 (0 : Int32) (3 : Int32) x2 (fv_X6_laysClerk s1 s2 (s3 + s4) M)) else (fv_X6_hourPasses_158 rec83 x1 x2 x4 ((fv_X6_ofClerk x2 (3 : Int32) (fv_X6_laysClerk s1 s2 (s3 + s4) M)) + (1 : Int32)) (3 : Int32) x2 (fv_X6_laysClerk s1 s2 (s3 + s4) M))
def ok_X6_hourPasses_135 (rec83 : Int32 → Int32 → ps_M → Int32 × ps_M) (okr83 : Int32 → Int32 → ps_M → Prop) (x1 : Int32) (x2 : Int32) (x3 : Int32) (x4 : Int32) (s4 : Int32) (s3 : Int32) (s2 : Int32) (s1 : Int32) (M : ps_M) : Prop := (ok_X6_laysClerk s1 s2 (s3 + s4) M) ∧ ((x3 = 0 → (ok_X6_hourPasses_158 rec83 okr83 x1 x2 x4 (0 : Int32) (3 : Int32) x2 (fv_X6_laysClerk s1 s2 (s3 + s4) M))) ∧ (¬ (x3 = 0) → ((ok_X6_ofClerk x2 (3 : Int32) (fv_X6_laysClerk s1 s2 (s3 + s4) M)) ∧ (ok_X6_hourPasses_158 rec83 okr83 x1 x2 x4 ((fv_X6_ofClerk x2 (3 : Int32) (fv_X6_laysClerk s1 s2 (s3 + s4) M)) + (1 : Int32)) (3 : Int32) x2 (fv_X6_laysClerk s1 s2 (s3 + s4) M)))))
set_option maxRecDepth 100000 in
set_option maxHeartbeats 4000000 in
theorem bw_X6_hourPasses_135 {E : ps_E} {X : ps_X (Int32 × ps_M)} (C : ps_C (pm_Y E) X cX6_hourPasses RX6 (some .int) 5 113 5) (RT : ps_RI (pm_Y E) X cX6_hourPasses .int) (rec83 : Int32 → Int32 → ps_M → Int32 × ps_M) (okr83 : Int32 → Int32 → ps_M → Prop) (hr83 : ∀ (x1 : Int32) (x2 : Int32)  (M : ps_M), okr83 x1 x2 M → ps_G (pm_Y E) X (rec83 x1 x2 M) 83 [(0, .ref (ps_ad E 0)), (1, .int x1), (2, .int x2)] [] M) (x1 : Int32) (x2 : Int32) (x3 : Int32) (x4 : Int32) (s4 : Int32) (s3 : Int32) (s2 : Int32) (s1 : Int32) (M : ps_M) (hk : ok_X6_hourPasses_135 rec83 okr83 x1 x2 x3 x4 s4 s3 s2 s1 M) : ps_G (pm_Y E) X (fv_X6_hourPasses_135 rec83 x1 x2 x3 x4 s4 s3 s2 s1 M) 135 [(0, .ref (ps_ad E 0)), (1, .int x1), (2, .int x2), (3, .int x3), (4, .int x4)] [.int s4, .int s3, .int s2, .int s1, .ref (ps_ad E 0)] M := by
  unfold fv_X6_hourPasses_135
  unfold ok_X6_hourPasses_135 at hk
  refine gw_iadd C 136 dX6_hourPasses_135 rfl ?_
  refine gw_cVv C 139 dX6_hourPasses_136 rfl yv_X6_laysClerk lk_X6_47 [.int s1, .int s2, .int (s3 + s4)] [] rfl (ct_X6_laysClerk (E := E) (l := ps_l X) s1 s2 (s3 + s4) M hk.1) pm_recv rfl (Nat.le_of_ble_eq_true rfl) (Nat.le_of_ble_eq_true rfl) (Nat.le_of_ble_eq_true rfl) ?_
  refine gw_aload_n C 140 dX6_hourPasses_139 0 rfl rfl ?_
  refine gw_iload_n C 141 dX6_hourPasses_140 2 rfl rfl ?_
  refine gw_iconst C 142 dX6_hourPasses_141 (v := 3) (by decide) rfl ?_
  refine gw_iload_n C 143 dX6_hourPasses_142 3 rfl rfl ?_
  refine gw_if_eq C 157 146 dX6_hourPasses_143 (by decide) rfl (fun c143 => ?_) (fun c143 => ?_)
  · refine gw_iconst C 158 dX6_hourPasses_157 (v := 0) (by decide) rfl ?_
    refine gw_sub C [(0, .ref (ps_ad E 0)), (1, .int x1), (2, .int x2), (4, .int x4)] [0, 1, 2, 4] rfl ?_
    exact bw_X6_hourPasses_158 C RT _ _ hr83 x1 x2 x4 (0 : Int32) (3 : Int32) x2 (fv_X6_laysClerk s1 s2 (s3 + s4) M) (hk.2.1 c143)
  · refine gw_aload_n C 147 dX6_hourPasses_146 0 rfl rfl ?_
    refine gw_iload_n C 148 dX6_hourPasses_147 2 rfl rfl ?_
    refine gw_iconst C 149 dX6_hourPasses_148 (v := 3) (by decide) rfl ?_
    refine gw_cVp C 152 dX6_hourPasses_149 rfl yv_X6_ofClerk lk_X6_58 [.int x2, .int (3 : Int32)] [.int (3 : Int32), .int x2, .ref (ps_ad E 0)] rfl (ct_X6_ofClerk (E := E) (l := ps_l X) x2 (3 : Int32) (fv_X6_laysClerk s1 s2 (s3 + s4) M) (hk.2.2 c143).1) pm_recv rfl (Nat.le_of_ble_eq_true rfl) (Nat.le_of_ble_eq_true rfl) (Nat.le_of_ble_eq_true rfl) ?_
    refine gw_iconst C 153 dX6_hourPasses_152 (v := 1) (by decide) rfl ?_
    refine gw_iadd C 154 dX6_hourPasses_153 rfl ?_
    refine gw_goto C 158 dX6_hourPasses_154 (by decide) ?_
    refine gw_sub C [(0, .ref (ps_ad E 0)), (1, .int x1), (2, .int x2), (4, .int x4)] [0, 1, 2, 4] rfl ?_
    exact bw_X6_hourPasses_158 C RT _ _ hr83 x1 x2 x4 ((fv_X6_ofClerk x2 (3 : Int32) (fv_X6_laysClerk s1 s2 (s3 + s4) M)) + (1 : Int32)) (3 : Int32) x2 (fv_X6_laysClerk s1 s2 (s3 + s4) M) (hk.2.2 c143).2
def fv_X6_hourPasses_108 (rec83 : Int32 → Int32 → ps_M → Int32 × ps_M) (x1 : Int32) (x2 : Int32) (s0 : Int32) (M : ps_M) : Int32 × ps_M := if s0 = 0 then (fv_X6_hourPasses_135 rec83 x1 x2 s0 (fv_X6_ofClerk x2 (5 : Int32) M) (0 : Int32) (fv_X6_ofClerk x2 (4 : Int32) M) (4 : Int32) x2 M) else (fv_X6_hourPasses_135 rec83 x1 x2 s0 (fv_X6_ofClerk x2 (5 : Int32) M) (1 : Int32) (fv_X6_ofClerk x2 (4 : Int32) M) (4 : Int32) x2 M)
def ok_X6_hourPasses_108 (rec83 : Int32 → Int32 → ps_M → Int32 × ps_M) (okr83 : Int32 → Int32 → ps_M → Prop) (x1 : Int32) (x2 : Int32) (s0 : Int32) (M : ps_M) : Prop := (ok_X6_ofClerk x2 (5 : Int32) M) ∧ ((ok_X6_ofClerk x2 (4 : Int32) M) ∧ ((s0 = 0 → (ok_X6_hourPasses_135 rec83 okr83 x1 x2 s0 (fv_X6_ofClerk x2 (5 : Int32) M) (0 : Int32) (fv_X6_ofClerk x2 (4 : Int32) M) (4 : Int32) x2 M)) ∧ (¬ (s0 = 0) → (ok_X6_hourPasses_135 rec83 okr83 x1 x2 s0 (fv_X6_ofClerk x2 (5 : Int32) M) (1 : Int32) (fv_X6_ofClerk x2 (4 : Int32) M) (4 : Int32) x2 M))))
set_option maxRecDepth 100000 in
set_option maxHeartbeats 4000000 in
theorem bw_X6_hourPasses_108 {E : ps_E} {X : ps_X (Int32 × ps_M)} (C : ps_C (pm_Y E) X cX6_hourPasses RX6 (some .int) 5 113 5) (RT : ps_RI (pm_Y E) X cX6_hourPasses .int) (rec83 : Int32 → Int32 → ps_M → Int32 × ps_M) (okr83 : Int32 → Int32 → ps_M → Prop) (hr83 : ∀ (x1 : Int32) (x2 : Int32)  (M : ps_M), okr83 x1 x2 M → ps_G (pm_Y E) X (rec83 x1 x2 M) 83 [(0, .ref (ps_ad E 0)), (1, .int x1), (2, .int x2)] [] M) (x1 : Int32) (x2 : Int32) (s0 : Int32) (M : ps_M) (hk : ok_X6_hourPasses_108 rec83 okr83 x1 x2 s0 M) : ps_G (pm_Y E) X (fv_X6_hourPasses_108 rec83 x1 x2 s0 M) 108 [(0, .ref (ps_ad E 0)), (1, .int x1), (2, .int x2)] [.int s0] M := by
  unfold fv_X6_hourPasses_108
  unfold ok_X6_hourPasses_108 at hk
  refine gw_istore_n C 109 dX6_hourPasses_108 rfl [(0, .ref (ps_ad E 0)), (1, .int x1), (2, .int x2), (3, .int s0)] [1, 2, 3, 0] (by decide) rfl ?_
  refine gw_aload_n C 110 dX6_hourPasses_109 0 rfl rfl ?_
  refine gw_iload_n C 111 dX6_hourPasses_110 2 rfl rfl ?_
  refine gw_iconst C 112 dX6_hourPasses_111 (v := 5) (by decide) rfl ?_
  refine gw_cVp C 115 dX6_hourPasses_112 rfl yv_X6_ofClerk lk_X6_58 [.int x2, .int (5 : Int32)] [] rfl (ct_X6_ofClerk (E := E) (l := ps_l X) x2 (5 : Int32) M hk.1) pm_recv rfl (Nat.le_of_ble_eq_true rfl) (Nat.le_of_ble_eq_true rfl) (Nat.le_of_ble_eq_true rfl) ?_
  refine gw_istore C 117 dX6_hourPasses_115 rfl [(0, .ref (ps_ad E 0)), (1, .int x1), (2, .int x2), (3, .int s0), (4, .int (fv_X6_ofClerk x2 (5 : Int32) M))] [1, 2, 3, 4, 0] (by decide) rfl ?_
  refine gw_aload_n C 118 dX6_hourPasses_117 0 rfl rfl ?_
  refine gw_iload_n C 119 dX6_hourPasses_118 2 rfl rfl ?_
  refine gw_iconst C 120 dX6_hourPasses_119 (v := 4) (by decide) rfl ?_
  refine gw_aload_n C 121 dX6_hourPasses_120 0 rfl rfl ?_
  refine gw_iload_n C 122 dX6_hourPasses_121 2 rfl rfl ?_
  refine gw_iconst C 123 dX6_hourPasses_122 (v := 4) (by decide) rfl ?_
  refine gw_cVp C 126 dX6_hourPasses_123 rfl yv_X6_ofClerk lk_X6_58 [.int x2, .int (4 : Int32)] [.int (4 : Int32), .int x2, .ref (ps_ad E 0)] rfl (ct_X6_ofClerk (E := E) (l := ps_l X) x2 (4 : Int32) M hk.2.1) pm_recv rfl (Nat.le_of_ble_eq_true rfl) (Nat.le_of_ble_eq_true rfl) (Nat.le_of_ble_eq_true rfl) ?_
  refine gw_iload_n C 127 dX6_hourPasses_126 3 rfl rfl ?_
  refine gw_if_eq C 134 130 dX6_hourPasses_127 (by decide) rfl (fun c127 => ?_) (fun c127 => ?_)
  · refine gw_iconst C 135 dX6_hourPasses_134 (v := 0) (by decide) rfl ?_
    exact bw_X6_hourPasses_135 C RT _ _ hr83 x1 x2 s0 (fv_X6_ofClerk x2 (5 : Int32) M) (0 : Int32) (fv_X6_ofClerk x2 (4 : Int32) M) (4 : Int32) x2 M (hk.2.2.1 c127)
  · refine gw_iconst C 131 dX6_hourPasses_130 (v := 1) (by decide) rfl ?_
    refine gw_goto C 135 dX6_hourPasses_131 (by decide) ?_
    exact bw_X6_hourPasses_135 C RT _ _ hr83 x1 x2 s0 (fv_X6_ofClerk x2 (5 : Int32) M) (1 : Int32) (fv_X6_ofClerk x2 (4 : Int32) M) (4 : Int32) x2 M (hk.2.2.2 c127)
def fv_X6_hourPasses_83 : Nat → Int32 → Int32 → ps_M → Int32 × ps_M
  | 0, _, _, M => (0, M)
  | n + 1, x1, x2, M => if (M 1 ((2 : Int32)).toNatClampNeg) ≤ x2 then ((x1, (ps_st M 1 ((0 : Int32)).toNatClampNeg ((M 1 ((0 : Int32)).toNatClampNeg) + (1 : Int32))))) else (if (fv_X6_ofClerk x2 (2 : Int32) M) = (-1 : Int32) then (fv_X6_hourPasses_108 (fun a1 a2 M => fv_X6_hourPasses_83 n a1 a2 M) x1 x2 (0 : Int32) M) else (fv_X6_hourPasses_108 (fun a1 a2 M => fv_X6_hourPasses_83 n a1 a2 M) x1 x2 (1 : Int32) M))
theorem fv_X6_hourPasses_83_s (n : Nat) (x1 : Int32) (x2 : Int32) (M : ps_M) : fv_X6_hourPasses_83 (n + 1) x1 x2 M = (if (M 1 ((2 : Int32)).toNatClampNeg) ≤ x2 then ((x1, (ps_st M 1 ((0 : Int32)).toNatClampNeg ((M 1 ((0 : Int32)).toNatClampNeg) + (1 : Int32))))) else (if (fv_X6_ofClerk x2 (2 : Int32) M) = (-1 : Int32) then (fv_X6_hourPasses_108 (fun a1 a2 M => fv_X6_hourPasses_83 n a1 a2 M) x1 x2 (0 : Int32) M) else (fv_X6_hourPasses_108 (fun a1 a2 M => fv_X6_hourPasses_83 n a1 a2 M) x1 x2 (1 : Int32) M))) := rfl
def ok_X6_hourPasses_83 : Nat → Int32 → Int32 → ps_M → Prop
  | 0, _, _, _ => False
  | n + 1, x1, x2, M => (vp_in (2 : Int32) 237) ∧ (((M 1 ((2 : Int32)).toNatClampNeg) ≤ x2 → ((vp_in (0 : Int32) 237) ∧ ((vp_in (0 : Int32) 237) ∧ True))) ∧ (¬ ((M 1 ((2 : Int32)).toNatClampNeg) ≤ x2) → ((ok_X6_ofClerk x2 (2 : Int32) M) ∧ (((fv_X6_ofClerk x2 (2 : Int32) M) = (-1 : Int32) → (ok_X6_hourPasses_108 (fun a1 a2 M => fv_X6_hourPasses_83 n a1 a2 M) (fun a1 a2 M => ok_X6_hourPasses_83 n a1 a2 M) x1 x2 (0 : Int32) M)) ∧ (¬ ((fv_X6_ofClerk x2 (2 : Int32) M) = (-1 : Int32)) → (ok_X6_hourPasses_108 (fun a1 a2 M => fv_X6_hourPasses_83 n a1 a2 M) (fun a1 a2 M => ok_X6_hourPasses_83 n a1 a2 M) x1 x2 (1 : Int32) M))))))
theorem ok_X6_hourPasses_83_s (n : Nat) (x1 : Int32) (x2 : Int32) (M : ps_M) : ok_X6_hourPasses_83 (n + 1) x1 x2 M = ((vp_in (2 : Int32) 237) ∧ (((M 1 ((2 : Int32)).toNatClampNeg) ≤ x2 → ((vp_in (0 : Int32) 237) ∧ ((vp_in (0 : Int32) 237) ∧ True))) ∧ (¬ ((M 1 ((2 : Int32)).toNatClampNeg) ≤ x2) → ((ok_X6_ofClerk x2 (2 : Int32) M) ∧ (((fv_X6_ofClerk x2 (2 : Int32) M) = (-1 : Int32) → (ok_X6_hourPasses_108 (fun a1 a2 M => fv_X6_hourPasses_83 n a1 a2 M) (fun a1 a2 M => ok_X6_hourPasses_83 n a1 a2 M) x1 x2 (0 : Int32) M)) ∧ (¬ ((fv_X6_ofClerk x2 (2 : Int32) M) = (-1 : Int32)) → (ok_X6_hourPasses_108 (fun a1 a2 M => fv_X6_hourPasses_83 n a1 a2 M) (fun a1 a2 M => ok_X6_hourPasses_83 n a1 a2 M) x1 x2 (1 : Int32) M))))))) := rfl
set_option maxRecDepth 100000 in
set_option maxHeartbeats 4000000 in
theorem bw_X6_hourPasses_83 {E : ps_E} {X : ps_X (Int32 × ps_M)} (C : ps_C (pm_Y E) X cX6_hourPasses RX6 (some .int) 5 113 5) (RT : ps_RI (pm_Y E) X cX6_hourPasses .int) : ∀ (n : Nat) (x1 : Int32) (x2 : Int32) (M : ps_M), ok_X6_hourPasses_83 n x1 x2 M → ps_G (pm_Y E) X (fv_X6_hourPasses_83 n x1 x2 M) 83 [(0, .ref (ps_ad E 0)), (1, .int x1), (2, .int x2)] [] M := by
  intro n
  induction n with
  | zero => intro x1 x2 M h; exact h.elim
  | succ n ih =>
    intro x1 x2 M hk
    rw [fv_X6_hourPasses_83_s]
    rw [ok_X6_hourPasses_83_s] at hk
    refine gw_iload_n C 84 dX6_hourPasses_83 2 rfl rfl ?_
    refine gw_aload_n C 85 dX6_hourPasses_84 0 rfl rfl ?_
    refine gf_X6_7 C 88 dX6_hourPasses_85 rfl ?_
    refine gw_iconst C 89 dX6_hourPasses_88 (v := 2) (by decide) rfl ?_
    refine gm_ld C 90 dX6_hourPasses_89 rfl (by decide) hk.1 ?_
    refine gw_ic_ge C 184 93 dX6_hourPasses_90 (by decide) rfl (fun c90 => ?_) (fun c90 => ?_)
    · refine gw_aload_n C 185 dX6_hourPasses_184 0 rfl rfl ?_
      refine gf_X6_7 C 188 dX6_hourPasses_185 rfl ?_
      refine gw_iconst C 189 dX6_hourPasses_188 (v := 0) (by decide) rfl ?_
      refine gw_dup2 C 190 dX6_hourPasses_189 rfl rfl rfl ?_
      refine gm_ld C 191 dX6_hourPasses_190 rfl (by decide) (hk.2.1 c90).1 ?_
      refine gw_iconst C 192 dX6_hourPasses_191 (v := 1) (by decide) rfl ?_
      refine gw_iadd C 193 dX6_hourPasses_192 rfl ?_
      refine gm_sv C 194 dX6_hourPasses_193 rfl (by decide) (hk.2.1 c90).2.1 ?_
      refine gw_iload_n C 195 dX6_hourPasses_194 1 rfl rfl ?_
      exact RT _ _ _ _ dX6_hourPasses_195 rfl
    · refine gw_aload_n C 94 dX6_hourPasses_93 0 rfl rfl ?_
      refine gw_iload_n C 95 dX6_hourPasses_94 2 rfl rfl ?_
      refine gw_iconst C 96 dX6_hourPasses_95 (v := 2) (by decide) rfl ?_
      refine gw_cVp C 99 dX6_hourPasses_96 rfl yv_X6_ofClerk lk_X6_58 [.int x2, .int (2 : Int32)] [] rfl (ct_X6_ofClerk (E := E) (l := ps_l X) x2 (2 : Int32) M (hk.2.2 c90).1) pm_recv rfl (Nat.le_of_ble_eq_true rfl) (Nat.le_of_ble_eq_true rfl) (Nat.le_of_ble_eq_true rfl) ?_
      refine gw_iconst C 100 dX6_hourPasses_99 (v := (-1)) (by decide) rfl ?_
      refine gw_ic_eq C 107 103 dX6_hourPasses_100 (by decide) rfl (fun c100 => ?_) (fun c100 => ?_)
      · refine gw_iconst C 108 dX6_hourPasses_107 (v := 0) (by decide) rfl ?_
        exact bw_X6_hourPasses_108 C RT _ _ (fun a1 a2  M h => ih a1 a2  M h) x1 x2 (0 : Int32) M ((hk.2.2 c90).2.1 c100)
      · refine gw_iconst C 104 dX6_hourPasses_103 (v := 1) (by decide) rfl ?_
        refine gw_goto C 108 dX6_hourPasses_104 (by decide) ?_
        exact bw_X6_hourPasses_108 C RT _ _ (fun a1 a2  M h => ih a1 a2  M h) x1 x2 (1 : Int32) M ((hk.2.2 c90).2.2 c100)
def fv_X6_hourPasses_57 : Nat → Int32 → Int32 → ps_M → Int32 × ps_M
  | 0, _, _, M => (0, M)
  | n + 1, x1, x2, M => if (M 1 ((1 : Int32)).toNatClampNeg) ≤ x2 then (fv_X6_hourPasses_83 ps_FU x1 (0 : Int32) M) else (fv_X6_hourPasses_57 n (x1 + (fv_X6_serves x2 M).1) (x2 + (1 : Int32)) ((fv_X6_serves x2 M).2))
theorem fv_X6_hourPasses_57_s (n : Nat) (x1 : Int32) (x2 : Int32) (M : ps_M) : fv_X6_hourPasses_57 (n + 1) x1 x2 M = (if (M 1 ((1 : Int32)).toNatClampNeg) ≤ x2 then (fv_X6_hourPasses_83 ps_FU x1 (0 : Int32) M) else (fv_X6_hourPasses_57 n (x1 + (fv_X6_serves x2 M).1) (x2 + (1 : Int32)) ((fv_X6_serves x2 M).2))) := rfl
def ok_X6_hourPasses_57 : Nat → Int32 → Int32 → ps_M → Prop
  | 0, _, _, _ => False
  | n + 1, x1, x2, M => (vp_in (1 : Int32) 237) ∧ (((M 1 ((1 : Int32)).toNatClampNeg) ≤ x2 → (ok_X6_hourPasses_83 ps_FU x1 (0 : Int32) M)) ∧ (¬ ((M 1 ((1 : Int32)).toNatClampNeg) ≤ x2) → ((ok_X6_serves x2 M) ∧ (ok_X6_hourPasses_57 n (x1 + (fv_X6_serves x2 M).1) (x2 + (1 : Int32)) ((fv_X6_serves x2 M).2)))))
theorem ok_X6_hourPasses_57_s (n : Nat) (x1 : Int32) (x2 : Int32) (M : ps_M) : ok_X6_hourPasses_57 (n + 1) x1 x2 M = ((vp_in (1 : Int32) 237) ∧ (((M 1 ((1 : Int32)).toNatClampNeg) ≤ x2 → (ok_X6_hourPasses_83 ps_FU x1 (0 : Int32) M)) ∧ (¬ ((M 1 ((1 : Int32)).toNatClampNeg) ≤ x2) → ((ok_X6_serves x2 M) ∧ (ok_X6_hourPasses_57 n (x1 + (fv_X6_serves x2 M).1) (x2 + (1 : Int32)) ((fv_X6_serves x2 M).2)))))) := rfl
set_option maxRecDepth 100000 in
set_option maxHeartbeats 4000000 in
theorem bw_X6_hourPasses_57 {E : ps_E} {X : ps_X (Int32 × ps_M)} (C : ps_C (pm_Y E) X cX6_hourPasses RX6 (some .int) 5 113 5) (RT : ps_RI (pm_Y E) X cX6_hourPasses .int) : ∀ (n : Nat) (x1 : Int32) (x2 : Int32) (M : ps_M), ok_X6_hourPasses_57 n x1 x2 M → ps_G (pm_Y E) X (fv_X6_hourPasses_57 n x1 x2 M) 57 [(0, .ref (ps_ad E 0)), (1, .int x1), (2, .int x2)] [] M := by
  intro n
  induction n with
  | zero => intro x1 x2 M h; exact h.elim
  | succ n ih =>
    intro x1 x2 M hk
    rw [fv_X6_hourPasses_57_s]
    rw [ok_X6_hourPasses_57_s] at hk
    refine gw_iload_n C 58 dX6_hourPasses_57 2 rfl rfl ?_
    refine gw_aload_n C 59 dX6_hourPasses_58 0 rfl rfl ?_
    refine gf_X6_7 C 62 dX6_hourPasses_59 rfl ?_
    refine gw_iconst C 63 dX6_hourPasses_62 (v := 1) (by decide) rfl ?_
    refine gm_ld C 64 dX6_hourPasses_63 rfl (by decide) hk.1 ?_
    refine gw_ic_ge C 81 67 dX6_hourPasses_64 (by decide) rfl (fun c64 => ?_) (fun c64 => ?_)
    · refine gw_iconst C 82 dX6_hourPasses_81 (v := 0) (by decide) rfl ?_
      refine gw_istore_n C 83 dX6_hourPasses_82 rfl [(0, .ref (ps_ad E 0)), (1, .int x1), (2, .int (0 : Int32))] [1, 2, 0] (by decide) rfl ?_
      exact bw_X6_hourPasses_83 C RT  ps_FU x1 (0 : Int32) M (hk.2.1 c64)
    · refine gw_iload_n C 68 dX6_hourPasses_67 1 rfl rfl ?_
      refine gw_aload_n C 69 dX6_hourPasses_68 0 rfl rfl ?_
      refine gw_iload_n C 70 dX6_hourPasses_69 2 rfl rfl ?_
      refine gw_cVi C 73 dX6_hourPasses_70 rfl yv_X6_serves lk_X6_87 [.int x2] [.int x1] rfl (ct_X6_serves (E := E) (l := ps_l X) x2 M (hk.2.2 c64).1) pm_recv rfl (Nat.le_of_ble_eq_true rfl) (Nat.le_of_ble_eq_true rfl) (Nat.le_of_ble_eq_true rfl) ?_
      refine gw_iadd C 74 dX6_hourPasses_73 rfl ?_
      refine gw_istore_n C 75 dX6_hourPasses_74 rfl [(0, .ref (ps_ad E 0)), (1, .int (x1 + (fv_X6_serves x2 M).1)), (2, .int x2)] [1, 0, 2] (by decide) rfl ?_
      refine gw_iinc C 78 dX6_hourPasses_75 rfl (y := 1) (by decide) rfl 2 rfl [(0, .ref (ps_ad E 0)), (1, .int (x1 + (fv_X6_serves x2 M).1)), (2, .int (x2 + (1 : Int32)))] [1, 2, 0] (by decide) rfl ?_
      refine gw_goto C 57 dX6_hourPasses_78 (by decide) ?_
      exact ih (x1 + (fv_X6_serves x2 M).1) (x2 + (1 : Int32)) ((fv_X6_serves x2 M).2) (hk.2.2 c64).2
def fv_X6_hourPasses_49  (M : ps_M) : Int32 × ps_M := fv_X6_hourPasses_57 ps_FU (0 : Int32) (0 : Int32) (fv_X6_takesTurns M)
def ok_X6_hourPasses_49  (M : ps_M) : Prop := (ok_X6_takesTurns M) ∧ (ok_X6_hourPasses_57 ps_FU (0 : Int32) (0 : Int32) (fv_X6_takesTurns M))
set_option maxRecDepth 100000 in
set_option maxHeartbeats 4000000 in
theorem bw_X6_hourPasses_49 {E : ps_E} {X : ps_X (Int32 × ps_M)} (C : ps_C (pm_Y E) X cX6_hourPasses RX6 (some .int) 5 113 5) (RT : ps_RI (pm_Y E) X cX6_hourPasses .int)  (M : ps_M) (hk : ok_X6_hourPasses_49  M) : ps_G (pm_Y E) X (fv_X6_hourPasses_49  M) 49 [(0, .ref (ps_ad E 0))] [] M := by
  unfold fv_X6_hourPasses_49
  unfold ok_X6_hourPasses_49 at hk
  refine gw_aload_n C 50 dX6_hourPasses_49 0 rfl rfl ?_
  refine gw_cVv C 53 dX6_hourPasses_50 rfl yv_X6_takesTurns lk_X6_84 [] [] rfl (ct_X6_takesTurns (E := E) (l := ps_l X) M hk.1) pm_recv rfl (Nat.le_of_ble_eq_true rfl) (Nat.le_of_ble_eq_true rfl) (Nat.le_of_ble_eq_true rfl) ?_
  refine gw_iconst C 54 dX6_hourPasses_53 (v := 0) (by decide) rfl ?_
  refine gw_istore_n C 55 dX6_hourPasses_54 rfl [(0, .ref (ps_ad E 0)), (1, .int (0 : Int32))] [1, 0] (by decide) rfl ?_
  refine gw_iconst C 56 dX6_hourPasses_55 (v := 0) (by decide) rfl ?_
  refine gw_istore_n C 57 dX6_hourPasses_56 rfl [(0, .ref (ps_ad E 0)), (1, .int (0 : Int32)), (2, .int (0 : Int32))] [1, 2, 0] (by decide) rfl ?_
  exact bw_X6_hourPasses_57 C RT  ps_FU (0 : Int32) (0 : Int32) (fv_X6_takesTurns M) hk.2
def fv_X6_hourPasses_2 : Nat → Int32 → ps_M → Int32 × ps_M
  | 0, _, M => (0, M)
  | n + 1, x1, M => if (M 1 ((1 : Int32)).toNatClampNeg) ≤ x1 then (fv_X6_hourPasses_49  M) else (if (15 : Int32) ≤ (M 1 ((0 : Int32)).toNatClampNeg) then (fv_X6_hourPasses_49  M) else (fv_X6_hourPasses_2 n (x1 + (1 : Int32)) (fv_X6_adds x1 (0 : Int32) (fv_X6_of x1 ((12 : Int32) + (M 1 ((0 : Int32)).toNatClampNeg)) M) M)))
theorem fv_X6_hourPasses_2_s (n : Nat) (x1 : Int32) (M : ps_M) : fv_X6_hourPasses_2 (n + 1) x1 M = (if (M 1 ((1 : Int32)).toNatClampNeg) ≤ x1 then (fv_X6_hourPasses_49  M) else (if (15 : Int32) ≤ (M 1 ((0 : Int32)).toNatClampNeg) then (fv_X6_hourPasses_49  M) else (fv_X6_hourPasses_2 n (x1 + (1 : Int32)) (fv_X6_adds x1 (0 : Int32) (fv_X6_of x1 ((12 : Int32) + (M 1 ((0 : Int32)).toNatClampNeg)) M) M)))) := rfl
def ok_X6_hourPasses_2 : Nat → Int32 → ps_M → Prop
  | 0, _, _ => False
  | n + 1, x1, M => (vp_in (1 : Int32) 237) ∧ (((M 1 ((1 : Int32)).toNatClampNeg) ≤ x1 → (ok_X6_hourPasses_49  M)) ∧ (¬ ((M 1 ((1 : Int32)).toNatClampNeg) ≤ x1) → ((vp_in (0 : Int32) 237) ∧ (((15 : Int32) ≤ (M 1 ((0 : Int32)).toNatClampNeg) → (ok_X6_hourPasses_49  M)) ∧ (¬ ((15 : Int32) ≤ (M 1 ((0 : Int32)).toNatClampNeg)) → ((vp_in (0 : Int32) 237) ∧ ((ok_X6_of x1 ((12 : Int32) + (M 1 ((0 : Int32)).toNatClampNeg)) M) ∧ ((ok_X6_adds x1 (0 : Int32) (fv_X6_of x1 ((12 : Int32) + (M 1 ((0 : Int32)).toNatClampNeg)) M) M) ∧ (ok_X6_hourPasses_2 n (x1 + (1 : Int32)) (fv_X6_adds x1 (0 : Int32) (fv_X6_of x1 ((12 : Int32) + (M 1 ((0 : Int32)).toNatClampNeg)) M) M))))))))))
theorem ok_X6_hourPasses_2_s (n : Nat) (x1 : Int32) (M : ps_M) : ok_X6_hourPasses_2 (n + 1) x1 M = ((vp_in (1 : Int32) 237) ∧ (((M 1 ((1 : Int32)).toNatClampNeg) ≤ x1 → (ok_X6_hourPasses_49  M)) ∧ (¬ ((M 1 ((1 : Int32)).toNatClampNeg) ≤ x1) → ((vp_in (0 : Int32) 237) ∧ (((15 : Int32) ≤ (M 1 ((0 : Int32)).toNatClampNeg) → (ok_X6_hourPasses_49  M)) ∧ (¬ ((15 : Int32) ≤ (M 1 ((0 : Int32)).toNatClampNeg)) → ((vp_in (0 : Int32) 237) ∧ ((ok_X6_of x1 ((12 : Int32) + (M 1 ((0 : Int32)).toNatClampNeg)) M) ∧ ((ok_X6_adds x1 (0 : Int32) (fv_X6_of x1 ((12 : Int32) + (M 1 ((0 : Int32)).toNatClampNeg)) M) M) ∧ (ok_X6_hourPasses_2 n (x1 + (1 : Int32)) (fv_X6_adds x1 (0 : Int32) (fv_X6_of x1 ((12 : Int32) + (M 1 ((0 : Int32)).toNatClampNeg)) M) M))))))))))) := rfl
set_option maxRecDepth 100000 in
set_option maxHeartbeats 4000000 in
theorem bw_X6_hourPasses_2 {E : ps_E} {X : ps_X (Int32 × ps_M)} (C : ps_C (pm_Y E) X cX6_hourPasses RX6 (some .int) 5 113 5) (RT : ps_RI (pm_Y E) X cX6_hourPasses .int) : ∀ (n : Nat) (x1 : Int32) (M : ps_M), ok_X6_hourPasses_2 n x1 M → ps_G (pm_Y E) X (fv_X6_hourPasses_2 n x1 M) 2 [(0, .ref (ps_ad E 0)), (1, .int x1)] [] M := by
  intro n
  induction n with
  | zero => intro x1 M h; exact h.elim
  | succ n ih =>
    intro x1 M hk
    rw [fv_X6_hourPasses_2_s]
    rw [ok_X6_hourPasses_2_s] at hk
    refine gw_iload_n C 3 dX6_hourPasses_2 1 rfl rfl ?_
    refine gw_aload_n C 4 dX6_hourPasses_3 0 rfl rfl ?_
    refine gf_X6_7 C 7 dX6_hourPasses_4 rfl ?_
    refine gw_iconst C 8 dX6_hourPasses_7 (v := 1) (by decide) rfl ?_
    refine gm_ld C 9 dX6_hourPasses_8 rfl (by decide) hk.1 ?_
    refine gw_ic_ge C 49 12 dX6_hourPasses_9 (by decide) rfl (fun c9 => ?_) (fun c9 => ?_)
    · refine gw_sub C [(0, .ref (ps_ad E 0))] [0] rfl ?_
      exact bw_X6_hourPasses_49 C RT  M (hk.2.1 c9)
    · refine gw_aload_n C 13 dX6_hourPasses_12 0 rfl rfl ?_
      refine gf_X6_7 C 16 dX6_hourPasses_13 rfl ?_
      refine gw_iconst C 17 dX6_hourPasses_16 (v := 0) (by decide) rfl ?_
      refine gm_ld C 18 dX6_hourPasses_17 rfl (by decide) (hk.2.2 c9).1 ?_
      refine gw_bipush C 20 dX6_hourPasses_18 (v := 15) (by decide) rfl ?_
      refine gw_ic_ge C 49 23 dX6_hourPasses_20 (by decide) rfl (fun c20 => ?_) (fun c20 => ?_)
      · refine gw_sub C [(0, .ref (ps_ad E 0))] [0] rfl ?_
        exact bw_X6_hourPasses_49 C RT  M ((hk.2.2 c9).2.1 c20)
      · refine gw_aload_n C 24 dX6_hourPasses_23 0 rfl rfl ?_
        refine gw_iload_n C 25 dX6_hourPasses_24 1 rfl rfl ?_
        refine gw_iconst C 26 dX6_hourPasses_25 (v := 0) (by decide) rfl ?_
        refine gw_aload_n C 27 dX6_hourPasses_26 0 rfl rfl ?_
        refine gw_iload_n C 28 dX6_hourPasses_27 1 rfl rfl ?_
        refine gw_bipush C 30 dX6_hourPasses_28 (v := 12) (by decide) rfl ?_
        refine gw_aload_n C 31 dX6_hourPasses_30 0 rfl rfl ?_
        refine gf_X6_7 C 34 dX6_hourPasses_31 rfl ?_
        refine gw_iconst C 35 dX6_hourPasses_34 (v := 0) (by decide) rfl ?_
        refine gm_ld C 36 dX6_hourPasses_35 rfl (by decide) ((hk.2.2 c9).2.2 c20).1 ?_
        refine gw_iadd C 37 dX6_hourPasses_36 rfl ?_
        refine gw_cVp C 40 dX6_hourPasses_37 rfl yv_X6_of lk_X6_54 [.int x1, .int ((12 : Int32) + (M 1 ((0 : Int32)).toNatClampNeg))] [.int (0 : Int32), .int x1, .ref (ps_ad E 0)] rfl (ct_X6_of (E := E) (l := ps_l X) x1 ((12 : Int32) + (M 1 ((0 : Int32)).toNatClampNeg)) M ((hk.2.2 c9).2.2 c20).2.1) pm_recv rfl (Nat.le_of_ble_eq_true rfl) (Nat.le_of_ble_eq_true rfl) (Nat.le_of_ble_eq_true rfl) ?_
        refine gw_cVv C 43 dX6_hourPasses_40 rfl yv_X6_adds lk_X6_43 [.int x1, .int (0 : Int32), .int (fv_X6_of x1 ((12 : Int32) + (M 1 ((0 : Int32)).toNatClampNeg)) M)] [] rfl (ct_X6_adds (E := E) (l := ps_l X) x1 (0 : Int32) (fv_X6_of x1 ((12 : Int32) + (M 1 ((0 : Int32)).toNatClampNeg)) M) M ((hk.2.2 c9).2.2 c20).2.2.1) pm_recv rfl (Nat.le_of_ble_eq_true rfl) (Nat.le_of_ble_eq_true rfl) (Nat.le_of_ble_eq_true rfl) ?_
        refine gw_iinc C 46 dX6_hourPasses_43 rfl (y := 1) (by decide) rfl 1 rfl [(0, .ref (ps_ad E 0)), (1, .int (x1 + (1 : Int32)))] [1, 0] (by decide) rfl ?_
        refine gw_goto C 2 dX6_hourPasses_46 (by decide) ?_
        exact ih (x1 + (1 : Int32)) (fv_X6_adds x1 (0 : Int32) (fv_X6_of x1 ((12 : Int32) + (M 1 ((0 : Int32)).toNatClampNeg)) M) M) ((hk.2.2 c9).2.2 c20).2.2.2
def fv_X6_hourPasses  (M : ps_M) : Int32 × ps_M := fv_X6_hourPasses_2 ps_FU (0 : Int32) M
def ok_X6_hourPasses  (M : ps_M) : Prop := ok_X6_hourPasses_2 ps_FU (0 : Int32) M
set_option maxRecDepth 100000 in
set_option maxHeartbeats 4000000 in
theorem bw_X6_hourPasses {E : ps_E} {X : ps_X (Int32 × ps_M)} (C : ps_C (pm_Y E) X cX6_hourPasses RX6 (some .int) 5 113 5) (RT : ps_RI (pm_Y E) X cX6_hourPasses .int)  (M : ps_M) (hk : ok_X6_hourPasses  M) : ps_G (pm_Y E) X (fv_X6_hourPasses  M) 0 [(0, .ref (ps_ad E 0))] [] M := by
  unfold fv_X6_hourPasses
  unfold ok_X6_hourPasses at hk
  refine gw_iconst C 1 dX6_hourPasses_0 (v := 0) (by decide) rfl ?_
  refine gw_istore_n C 2 dX6_hourPasses_1 rfl [(0, .ref (ps_ad E 0)), (1, .int (0 : Int32))] [1, 0] (by decide) rfl ?_
  exact bw_X6_hourPasses_2 C RT  ps_FU (0 : Int32) M hk
theorem ct_X6_hourPasses {E : ps_E} {l : Launch}   (M : ps_M) (hk : ok_X6_hourPasses  M) : ps_CI (pm_Y E) l yX6_hourPasses cX6_hourPasses 5 (some .int) 5 113 [.ref (ps_ad E 0)] M (fv_X6_hourPasses  M) := ps_metI RX6 (by decide) rfl (Nat.le_of_ble_eq_true rfl) rfl (fun X _ C RT => bw_X6_hourPasses C RT M hk)
def fv_X6_hoursPass_4 : Nat → Int32 → Int32 → Int32 → ps_M → Int32 × ps_M
  | 0, _, _, _, M => (0, M)
  | n + 1, x1, x2, x3, M => if x1 ≤ x3 then ((x2, M)) else (fv_X6_hoursPass_4 n x1 (x2 + (fv_X6_hourPasses M).1) (x3 + (1 : Int32)) ((fv_X6_hourPasses M).2))
theorem fv_X6_hoursPass_4_s (n : Nat) (x1 : Int32) (x2 : Int32) (x3 : Int32) (M : ps_M) : fv_X6_hoursPass_4 (n + 1) x1 x2 x3 M = (if x1 ≤ x3 then ((x2, M)) else (fv_X6_hoursPass_4 n x1 (x2 + (fv_X6_hourPasses M).1) (x3 + (1 : Int32)) ((fv_X6_hourPasses M).2))) := rfl
def ok_X6_hoursPass_4 : Nat → Int32 → Int32 → Int32 → ps_M → Prop
  | 0, _, _, _, _ => False
  | n + 1, x1, x2, x3, M => (x1 ≤ x3 → True) ∧ (¬ (x1 ≤ x3) → ((ok_X6_hourPasses M) ∧ (ok_X6_hoursPass_4 n x1 (x2 + (fv_X6_hourPasses M).1) (x3 + (1 : Int32)) ((fv_X6_hourPasses M).2))))
theorem ok_X6_hoursPass_4_s (n : Nat) (x1 : Int32) (x2 : Int32) (x3 : Int32) (M : ps_M) : ok_X6_hoursPass_4 (n + 1) x1 x2 x3 M = ((x1 ≤ x3 → True) ∧ (¬ (x1 ≤ x3) → ((ok_X6_hourPasses M) ∧ (ok_X6_hoursPass_4 n x1 (x2 + (fv_X6_hourPasses M).1) (x3 + (1 : Int32)) ((fv_X6_hourPasses M).2))))) := rfl
set_option maxRecDepth 100000 in
set_option maxHeartbeats 4000000 in
theorem bw_X6_hoursPass_4 {E : ps_E} {X : ps_X (Int32 × ps_M)} (C : ps_C (pm_Y E) X cX6_hoursPass RX6 (some .int) 6 137 4) (RT : ps_RI (pm_Y E) X cX6_hoursPass .int) : ∀ (n : Nat) (x1 : Int32) (x2 : Int32) (x3 : Int32) (M : ps_M), ok_X6_hoursPass_4 n x1 x2 x3 M → ps_G (pm_Y E) X (fv_X6_hoursPass_4 n x1 x2 x3 M) 4 [(0, .ref (ps_ad E 0)), (1, .int x1), (2, .int x2), (3, .int x3)] [] M := by
  intro n
  induction n with
  | zero => intro x1 x2 x3 M h; exact h.elim
  | succ n ih =>
    intro x1 x2 x3 M hk
    rw [fv_X6_hoursPass_4_s]
    rw [ok_X6_hoursPass_4_s] at hk
    refine gw_iload_n C 5 dX6_hoursPass_4 3 rfl rfl ?_
    refine gw_iload_n C 6 dX6_hoursPass_5 1 rfl rfl ?_
    refine gw_ic_ge C 22 9 dX6_hoursPass_6 (by decide) rfl (fun c6 => ?_) (fun c6 => ?_)
    · refine gw_iload_n C 23 dX6_hoursPass_22 2 rfl rfl ?_
      exact RT _ _ _ _ dX6_hoursPass_23 rfl
    · refine gw_iload_n C 10 dX6_hoursPass_9 2 rfl rfl ?_
      refine gw_aload_n C 11 dX6_hoursPass_10 0 rfl rfl ?_
      refine gw_cVi C 14 dX6_hoursPass_11 rfl yv_X6_hourPasses lk_X6_90 [] [.int x2] rfl (ct_X6_hourPasses (E := E) (l := ps_l X) M (hk.2 c6).1) pm_recv rfl (Nat.le_of_ble_eq_true rfl) (Nat.le_of_ble_eq_true rfl) (Nat.le_of_ble_eq_true rfl) ?_
      refine gw_iadd C 15 dX6_hoursPass_14 rfl ?_
      refine gw_istore_n C 16 dX6_hoursPass_15 rfl [(0, .ref (ps_ad E 0)), (1, .int x1), (2, .int (x2 + (fv_X6_hourPasses M).1)), (3, .int x3)] [1, 2, 0, 3] (by decide) rfl ?_
      refine gw_iinc C 19 dX6_hoursPass_16 rfl (y := 1) (by decide) rfl 3 rfl [(0, .ref (ps_ad E 0)), (1, .int x1), (2, .int (x2 + (fv_X6_hourPasses M).1)), (3, .int (x3 + (1 : Int32)))] [1, 2, 3, 0] (by decide) rfl ?_
      refine gw_goto C 4 dX6_hoursPass_19 (by decide) ?_
      exact ih x1 (x2 + (fv_X6_hourPasses M).1) (x3 + (1 : Int32)) ((fv_X6_hourPasses M).2) (hk.2 c6).2
def fv_X6_hoursPass (x1 : Int32) (M : ps_M) : Int32 × ps_M := fv_X6_hoursPass_4 ps_FU x1 (0 : Int32) (0 : Int32) M
def ok_X6_hoursPass (x1 : Int32) (M : ps_M) : Prop := ok_X6_hoursPass_4 ps_FU x1 (0 : Int32) (0 : Int32) M
set_option maxRecDepth 100000 in
set_option maxHeartbeats 4000000 in
theorem bw_X6_hoursPass {E : ps_E} {X : ps_X (Int32 × ps_M)} (C : ps_C (pm_Y E) X cX6_hoursPass RX6 (some .int) 6 137 4) (RT : ps_RI (pm_Y E) X cX6_hoursPass .int) (x1 : Int32) (M : ps_M) (hk : ok_X6_hoursPass x1 M) : ps_G (pm_Y E) X (fv_X6_hoursPass x1 M) 0 [(0, .ref (ps_ad E 0)), (1, .int x1)] [] M := by
  unfold fv_X6_hoursPass
  unfold ok_X6_hoursPass at hk
  refine gw_iconst C 1 dX6_hoursPass_0 (v := 0) (by decide) rfl ?_
  refine gw_istore_n C 2 dX6_hoursPass_1 rfl [(0, .ref (ps_ad E 0)), (1, .int x1), (2, .int (0 : Int32))] [1, 2, 0] (by decide) rfl ?_
  refine gw_iconst C 3 dX6_hoursPass_2 (v := 0) (by decide) rfl ?_
  refine gw_istore_n C 4 dX6_hoursPass_3 rfl [(0, .ref (ps_ad E 0)), (1, .int x1), (2, .int (0 : Int32)), (3, .int (0 : Int32))] [1, 2, 3, 0] (by decide) rfl ?_
  exact bw_X6_hoursPass_4 C RT  ps_FU x1 (0 : Int32) (0 : Int32) M hk
theorem ct_X6_hoursPass {E : ps_E} {l : Launch} (x1 : Int32)  (M : ps_M) (hk : ok_X6_hoursPass x1 M) : ps_CI (pm_Y E) l yX6_hoursPass cX6_hoursPass 4 (some .int) 6 137 [.ref (ps_ad E 0), .int x1] M (fv_X6_hoursPass x1 M) := ps_metI RX6 (by decide) rfl (Nat.le_of_ble_eq_true rfl) rfl (fun X _ C RT => bw_X6_hoursPass C RT x1 M hk)
def fv_X6_pass (x1 : Int32) (M : ps_M) : Int32 × ps_M := if (fv_X6_in x1 (1 : Int32) (18 : Int32) M) = 0 then (((-2 : Int32), M)) else (if ((M 1 ((0 : Int32)).toNatClampNeg) + x1) ≤ (18 : Int32) then (((fv_X6_hoursPass x1 (fv_X6_records M)).1, (fv_X6_hoursPass x1 (fv_X6_records M)).2)) else (((-4 : Int32), M)))
def ok_X6_pass (x1 : Int32) (M : ps_M) : Prop := (ok_X6_in x1 (1 : Int32) (18 : Int32) M) ∧ (((fv_X6_in x1 (1 : Int32) (18 : Int32) M) = 0 → True) ∧ (¬ ((fv_X6_in x1 (1 : Int32) (18 : Int32) M) = 0) → ((vp_in (0 : Int32) 237) ∧ ((((M 1 ((0 : Int32)).toNatClampNeg) + x1) ≤ (18 : Int32) → ((ok_X6_records M) ∧ ((ok_X6_hoursPass x1 (fv_X6_records M)) ∧ True))) ∧ (¬ (((M 1 ((0 : Int32)).toNatClampNeg) + x1) ≤ (18 : Int32)) → True)))))
set_option maxRecDepth 100000 in
set_option maxHeartbeats 4000000 in
theorem bw_X6_pass {E : ps_E} {X : ps_X (Int32 × ps_M)} (C : ps_C (pm_Y E) X cX6_pass RX6 (some .int) 7 160 2) (RT : ps_RI (pm_Y E) X cX6_pass .int) (x1 : Int32) (M : ps_M) (hk : ok_X6_pass x1 M) : ps_G (pm_Y E) X (fv_X6_pass x1 M) 0 [(0, .ref (ps_ad E 0)), (1, .int x1)] [] M := by
  unfold fv_X6_pass
  unfold ok_X6_pass at hk
  refine gw_iload_n C 1 dX6_pass_0 1 rfl rfl ?_
  refine gw_iconst C 2 dX6_pass_1 (v := 1) (by decide) rfl ?_
  refine gw_bipush C 4 dX6_pass_2 (v := 18) (by decide) rfl ?_
  refine gw_cSp C 7 dX6_pass_4 rfl yv_X6_in lk_X6_36 [.int x1, .int (1 : Int32), .int (18 : Int32)] [] rfl (ct_X6_in (E := E) (l := ps_l X) x1 (1 : Int32) (18 : Int32) M hk.1) rfl (Nat.le_of_ble_eq_true rfl) (Nat.le_of_ble_eq_true rfl) (Nat.le_of_ble_eq_true rfl) ?_
  refine gw_if_ne C 13 10 dX6_pass_7 (by decide) rfl (fun c7 => ?_) (fun c7 => ?_)
  · refine gw_bipush C 12 dX6_pass_10 (v := (-2)) (by decide) rfl ?_
    exact RT _ _ _ _ dX6_pass_12 rfl
  · refine gw_aload_n C 14 dX6_pass_13 0 rfl rfl ?_
    refine gf_X6_7 C 17 dX6_pass_14 rfl ?_
    refine gw_iconst C 18 dX6_pass_17 (v := 0) (by decide) rfl ?_
    refine gm_ld C 19 dX6_pass_18 rfl (by decide) (hk.2.2 c7).1 ?_
    refine gw_iload_n C 20 dX6_pass_19 1 rfl rfl ?_
    refine gw_iadd C 21 dX6_pass_20 rfl ?_
    refine gw_bipush C 23 dX6_pass_21 (v := 18) (by decide) rfl ?_
    refine gw_ic_le C 29 26 dX6_pass_23 (by decide) rfl (fun c23 => ?_) (fun c23 => ?_)
    · refine gw_aload_n C 30 dX6_pass_29 0 rfl rfl ?_
      refine gw_cVv C 33 dX6_pass_30 rfl yv_X6_records lk_X6_40 [] [] rfl (ct_X6_records (E := E) (l := ps_l X) M ((hk.2.2 c7).2.1 c23).1) pm_recv rfl (Nat.le_of_ble_eq_true rfl) (Nat.le_of_ble_eq_true rfl) (Nat.le_of_ble_eq_true rfl) ?_
      refine gw_aload_n C 34 dX6_pass_33 0 rfl rfl ?_
      refine gw_iload_n C 35 dX6_pass_34 1 rfl rfl ?_
      refine gw_cVi C 38 dX6_pass_35 rfl yv_X6_hoursPass lk_X6_94 [.int x1] [] rfl (ct_X6_hoursPass (E := E) (l := ps_l X) x1 (fv_X6_records M) ((hk.2.2 c7).2.1 c23).2.1) pm_recv rfl (Nat.le_of_ble_eq_true rfl) (Nat.le_of_ble_eq_true rfl) (Nat.le_of_ble_eq_true rfl) ?_
      exact RT _ _ _ _ dX6_pass_38 rfl
    · refine gw_bipush C 28 dX6_pass_26 (v := (-4)) (by decide) rfl ?_
      exact RT _ _ _ _ dX6_pass_28 rfl
theorem ct_X6_pass {E : ps_E} {l : Launch} (x1 : Int32)  (M : ps_M) (hk : ok_X6_pass x1 M) : ps_CI (pm_Y E) l yX6_pass cX6_pass 2 (some .int) 7 160 [.ref (ps_ad E 0), .int x1] M (fv_X6_pass x1 M) := ps_metI RX6 (by decide) rfl (Nat.le_of_ble_eq_true rfl) rfl (fun X _ C RT => bw_X6_pass C RT x1 M hk)
def fv_X6_supply (x1 : Int32) (x2 : Int32) (M : ps_M) : Int32 × ps_M := if (fv_X6_isStation x1 M) = 0 then (((-1 : Int32), M)) else (if (fv_X6_in x2 (1 : Int32) (9999 : Int32) M) = 0 then (((-2 : Int32), M)) else (if ((fv_X6_of x1 (4 : Int32) M) + x2) ≤ (9999 : Int32) then (((fv_X6_of x1 (4 : Int32) (fv_X6_adds x1 (4 : Int32) x2 (fv_X6_records M))), (fv_X6_adds x1 (4 : Int32) x2 (fv_X6_records M)))) else (((-3 : Int32), M))))
def ok_X6_supply (x1 : Int32) (x2 : Int32) (M : ps_M) : Prop := (ok_X6_isStation x1 M) ∧ (((fv_X6_isStation x1 M) = 0 → True) ∧ (¬ ((fv_X6_isStation x1 M) = 0) → ((ok_X6_in x2 (1 : Int32) (9999 : Int32) M) ∧ (((fv_X6_in x2 (1 : Int32) (9999 : Int32) M) = 0 → True) ∧ (¬ ((fv_X6_in x2 (1 : Int32) (9999 : Int32) M) = 0) → ((ok_X6_of x1 (4 : Int32) M) ∧ ((((fv_X6_of x1 (4 : Int32) M) + x2) ≤ (9999 : Int32) → ((ok_X6_records M) ∧ ((ok_X6_adds x1 (4 : Int32) x2 (fv_X6_records M)) ∧ ((ok_X6_of x1 (4 : Int32) (fv_X6_adds x1 (4 : Int32) x2 (fv_X6_records M))) ∧ True)))) ∧ (¬ (((fv_X6_of x1 (4 : Int32) M) + x2) ≤ (9999 : Int32)) → True))))))))
set_option maxRecDepth 100000 in
set_option maxHeartbeats 4000000 in
theorem bw_X6_supply {E : ps_E} {X : ps_X (Int32 × ps_M)} (C : ps_C (pm_Y E) X cX6_supply RX6 (some .int) 2 45 3) (RT : ps_RI (pm_Y E) X cX6_supply .int) (x1 : Int32) (x2 : Int32) (M : ps_M) (hk : ok_X6_supply x1 x2 M) : ps_G (pm_Y E) X (fv_X6_supply x1 x2 M) 0 [(0, .ref (ps_ad E 0)), (1, .int x1), (2, .int x2)] [] M := by
  unfold fv_X6_supply
  unfold ok_X6_supply at hk
  refine gw_aload_n C 1 dX6_supply_0 0 rfl rfl ?_
  refine gw_iload_n C 2 dX6_supply_1 1 rfl rfl ?_
  refine gw_cVp C 5 dX6_supply_2 rfl yv_X6_isStation lk_X6_50 [.int x1] [] rfl (ct_X6_isStation (E := E) (l := ps_l X) x1 M hk.1) pm_recv rfl (Nat.le_of_ble_eq_true rfl) (Nat.le_of_ble_eq_true rfl) (Nat.le_of_ble_eq_true rfl) ?_
  refine gw_if_ne C 10 8 dX6_supply_5 (by decide) rfl (fun c5 => ?_) (fun c5 => ?_)
  · refine gw_iconst C 9 dX6_supply_8 (v := (-1)) (by decide) rfl ?_
    exact RT _ _ _ _ dX6_supply_9 rfl
  · refine gw_iload_n C 11 dX6_supply_10 2 rfl rfl ?_
    refine gw_iconst C 12 dX6_supply_11 (v := 1) (by decide) rfl ?_
    refine gw_sipush C 15 dX6_supply_12 (v := 9999) (by decide) rfl ?_
    refine gw_cSp C 18 dX6_supply_15 rfl yv_X6_in lk_X6_36 [.int x2, .int (1 : Int32), .int (9999 : Int32)] [] rfl (ct_X6_in (E := E) (l := ps_l X) x2 (1 : Int32) (9999 : Int32) M (hk.2.2 c5).1) rfl (Nat.le_of_ble_eq_true rfl) (Nat.le_of_ble_eq_true rfl) (Nat.le_of_ble_eq_true rfl) ?_
    refine gw_if_ne C 24 21 dX6_supply_18 (by decide) rfl (fun c18 => ?_) (fun c18 => ?_)
    · refine gw_bipush C 23 dX6_supply_21 (v := (-2)) (by decide) rfl ?_
      exact RT _ _ _ _ dX6_supply_23 rfl
    · refine gw_aload_n C 25 dX6_supply_24 0 rfl rfl ?_
      refine gw_iload_n C 26 dX6_supply_25 1 rfl rfl ?_
      refine gw_iconst C 27 dX6_supply_26 (v := 4) (by decide) rfl ?_
      refine gw_cVp C 30 dX6_supply_27 rfl yv_X6_of lk_X6_54 [.int x1, .int (4 : Int32)] [] rfl (ct_X6_of (E := E) (l := ps_l X) x1 (4 : Int32) M ((hk.2.2 c5).2.2 c18).1) pm_recv rfl (Nat.le_of_ble_eq_true rfl) (Nat.le_of_ble_eq_true rfl) (Nat.le_of_ble_eq_true rfl) ?_
      refine gw_iload_n C 31 dX6_supply_30 2 rfl rfl ?_
      refine gw_iadd C 32 dX6_supply_31 rfl ?_
      refine gw_sipush C 35 dX6_supply_32 (v := 9999) (by decide) rfl ?_
      refine gw_ic_le C 41 38 dX6_supply_35 (by decide) rfl (fun c35 => ?_) (fun c35 => ?_)
      · refine gw_aload_n C 42 dX6_supply_41 0 rfl rfl ?_
        refine gw_cVv C 45 dX6_supply_42 rfl yv_X6_records lk_X6_40 [] [] rfl (ct_X6_records (E := E) (l := ps_l X) M (((hk.2.2 c5).2.2 c18).2.1 c35).1) pm_recv rfl (Nat.le_of_ble_eq_true rfl) (Nat.le_of_ble_eq_true rfl) (Nat.le_of_ble_eq_true rfl) ?_
        refine gw_aload_n C 46 dX6_supply_45 0 rfl rfl ?_
        refine gw_iload_n C 47 dX6_supply_46 1 rfl rfl ?_
        refine gw_iconst C 48 dX6_supply_47 (v := 4) (by decide) rfl ?_
        refine gw_iload_n C 49 dX6_supply_48 2 rfl rfl ?_
        refine gw_cVv C 52 dX6_supply_49 rfl yv_X6_adds lk_X6_43 [.int x1, .int (4 : Int32), .int x2] [] rfl (ct_X6_adds (E := E) (l := ps_l X) x1 (4 : Int32) x2 (fv_X6_records M) (((hk.2.2 c5).2.2 c18).2.1 c35).2.1) pm_recv rfl (Nat.le_of_ble_eq_true rfl) (Nat.le_of_ble_eq_true rfl) (Nat.le_of_ble_eq_true rfl) ?_
        refine gw_aload_n C 53 dX6_supply_52 0 rfl rfl ?_
        refine gw_iload_n C 54 dX6_supply_53 1 rfl rfl ?_
        refine gw_iconst C 55 dX6_supply_54 (v := 4) (by decide) rfl ?_
        refine gw_cVp C 58 dX6_supply_55 rfl yv_X6_of lk_X6_54 [.int x1, .int (4 : Int32)] [] rfl (ct_X6_of (E := E) (l := ps_l X) x1 (4 : Int32) (fv_X6_adds x1 (4 : Int32) x2 (fv_X6_records M)) (((hk.2.2 c5).2.2 c18).2.1 c35).2.2.1) pm_recv rfl (Nat.le_of_ble_eq_true rfl) (Nat.le_of_ble_eq_true rfl) (Nat.le_of_ble_eq_true rfl) ?_
        exact RT _ _ _ _ dX6_supply_58 rfl
      · refine gw_bipush C 40 dX6_supply_38 (v := (-3)) (by decide) rfl ?_
        exact RT _ _ _ _ dX6_supply_40 rfl
theorem ct_X6_supply {E : ps_E} {l : Launch} (x1 : Int32) (x2 : Int32)  (M : ps_M) (hk : ok_X6_supply x1 x2 M) : ps_CI (pm_Y E) l yX6_supply cX6_supply 3 (some .int) 2 45 [.ref (ps_ad E 0), .int x1, .int x2] M (fv_X6_supply x1 x2 M) := ps_metI RX6 (by decide) rfl (Nat.le_of_ble_eq_true rfl) rfl (fun X _ C RT => bw_X6_supply C RT x1 x2 M hk)
def fv_X6_movePapers (x1 : Int32) (x2 : Int32) (x3 : Int32) (M : ps_M) : Int32 × ps_M := if (fv_X6_isStation x1 M) = 0 then (((-1 : Int32), M)) else (if (fv_X6_isStation x2 M) = 0 then (((-1 : Int32), M)) else (if (fv_X6_in x3 (1 : Int32) (9999 : Int32) M) = 0 then (((-2 : Int32), M)) else (if x1 = x2 then (((-2 : Int32), M)) else (if x3 ≤ (fv_X6_of x1 (4 : Int32) M) then (if ((fv_X6_of x2 (4 : Int32) M) + x3) ≤ (9999 : Int32) then (((fv_X6_of x1 (4 : Int32) (fv_X6_adds x2 (4 : Int32) x3 (fv_X6_adds x1 (4 : Int32) (-x3) (fv_X6_records M)))), (fv_X6_adds x2 (4 : Int32) x3 (fv_X6_adds x1 (4 : Int32) (-x3) (fv_X6_records M))))) else (((-3 : Int32), M))) else (((-4 : Int32), M))))))
def ok_X6_movePapers (x1 : Int32) (x2 : Int32) (x3 : Int32) (M : ps_M) : Prop := (ok_X6_isStation x1 M) ∧ (((fv_X6_isStation x1 M) = 0 → True) ∧ (¬ ((fv_X6_isStation x1 M) = 0) → ((ok_X6_isStation x2 M) ∧ (((fv_X6_isStation x2 M) = 0 → True) ∧ (¬ ((fv_X6_isStation x2 M) = 0) → ((ok_X6_in x3 (1 : Int32) (9999 : Int32) M) ∧ (((fv_X6_in x3 (1 : Int32) (9999 : Int32) M) = 0 → True) ∧ (¬ ((fv_X6_in x3 (1 : Int32) (9999 : Int32) M) = 0) → ((x1 = x2 → True) ∧ (¬ (x1 = x2) → ((ok_X6_of x1 (4 : Int32) M) ∧ ((x3 ≤ (fv_X6_of x1 (4 : Int32) M) → ((ok_X6_of x2 (4 : Int32) M) ∧ ((((fv_X6_of x2 (4 : Int32) M) + x3) ≤ (9999 : Int32) → ((ok_X6_records M) ∧ ((ok_X6_adds x1 (4 : Int32) (-x3) (fv_X6_records M)) ∧ ((ok_X6_adds x2 (4 : Int32) x3 (fv_X6_adds x1 (4 : Int32) (-x3) (fv_X6_records M))) ∧ ((ok_X6_of x1 (4 : Int32) (fv_X6_adds x2 (4 : Int32) x3 (fv_X6_adds x1 (4 : Int32) (-x3) (fv_X6_records M)))) ∧ True))))) ∧ (¬ (((fv_X6_of x2 (4 : Int32) M) + x3) ≤ (9999 : Int32)) → True)))) ∧ (¬ (x3 ≤ (fv_X6_of x1 (4 : Int32) M)) → True)))))))))))))
set_option maxRecDepth 100000 in
set_option maxHeartbeats 4000000 in
theorem bw_X6_movePapers {E : ps_E} {X : ps_X (Int32 × ps_M)} (C : ps_C (pm_Y E) X cX6_movePapers RX6 (some .int) 2 45 4) (RT : ps_RI (pm_Y E) X cX6_movePapers .int) (x1 : Int32) (x2 : Int32) (x3 : Int32) (M : ps_M) (hk : ok_X6_movePapers x1 x2 x3 M) : ps_G (pm_Y E) X (fv_X6_movePapers x1 x2 x3 M) 0 [(0, .ref (ps_ad E 0)), (1, .int x1), (2, .int x2), (3, .int x3)] [] M := by
  unfold fv_X6_movePapers
  unfold ok_X6_movePapers at hk
  refine gw_aload_n C 1 dX6_movePapers_0 0 rfl rfl ?_
  refine gw_iload_n C 2 dX6_movePapers_1 1 rfl rfl ?_
  refine gw_cVp C 5 dX6_movePapers_2 rfl yv_X6_isStation lk_X6_50 [.int x1] [] rfl (ct_X6_isStation (E := E) (l := ps_l X) x1 M hk.1) pm_recv rfl (Nat.le_of_ble_eq_true rfl) (Nat.le_of_ble_eq_true rfl) (Nat.le_of_ble_eq_true rfl) ?_
  refine gw_if_eq C 16 8 dX6_movePapers_5 (by decide) rfl (fun c5 => ?_) (fun c5 => ?_)
  · refine gw_iconst C 17 dX6_movePapers_16 (v := (-1)) (by decide) rfl ?_
    exact RT _ _ _ _ dX6_movePapers_17 rfl
  · refine gw_aload_n C 9 dX6_movePapers_8 0 rfl rfl ?_
    refine gw_iload_n C 10 dX6_movePapers_9 2 rfl rfl ?_
    refine gw_cVp C 13 dX6_movePapers_10 rfl yv_X6_isStation lk_X6_50 [.int x2] [] rfl (ct_X6_isStation (E := E) (l := ps_l X) x2 M (hk.2.2 c5).1) pm_recv rfl (Nat.le_of_ble_eq_true rfl) (Nat.le_of_ble_eq_true rfl) (Nat.le_of_ble_eq_true rfl) ?_
    refine gw_if_ne C 18 16 dX6_movePapers_13 (by decide) rfl (fun c13 => ?_) (fun c13 => ?_)
    · refine gw_iconst C 17 dX6_movePapers_16 (v := (-1)) (by decide) rfl ?_
      exact RT _ _ _ _ dX6_movePapers_17 rfl
    · refine gw_iload_n C 19 dX6_movePapers_18 3 rfl rfl ?_
      refine gw_iconst C 20 dX6_movePapers_19 (v := 1) (by decide) rfl ?_
      refine gw_sipush C 23 dX6_movePapers_20 (v := 9999) (by decide) rfl ?_
      refine gw_cSp C 26 dX6_movePapers_23 rfl yv_X6_in lk_X6_36 [.int x3, .int (1 : Int32), .int (9999 : Int32)] [] rfl (ct_X6_in (E := E) (l := ps_l X) x3 (1 : Int32) (9999 : Int32) M ((hk.2.2 c5).2.2 c13).1) rfl (Nat.le_of_ble_eq_true rfl) (Nat.le_of_ble_eq_true rfl) (Nat.le_of_ble_eq_true rfl) ?_
      refine gw_if_eq C 34 29 dX6_movePapers_26 (by decide) rfl (fun c26 => ?_) (fun c26 => ?_)
      · refine gw_bipush C 36 dX6_movePapers_34 (v := (-2)) (by decide) rfl ?_
        exact RT _ _ _ _ dX6_movePapers_36 rfl
      · refine gw_iload_n C 30 dX6_movePapers_29 1 rfl rfl ?_
        refine gw_iload_n C 31 dX6_movePapers_30 2 rfl rfl ?_
        refine gw_ic_ne C 37 34 dX6_movePapers_31 (by decide) rfl (fun c31 => ?_) (fun c31 => ?_)
        · refine gw_bipush C 36 dX6_movePapers_34 (v := (-2)) (by decide) rfl ?_
          exact RT _ _ _ _ dX6_movePapers_36 rfl
        · refine gw_aload_n C 38 dX6_movePapers_37 0 rfl rfl ?_
          refine gw_iload_n C 39 dX6_movePapers_38 1 rfl rfl ?_
          refine gw_iconst C 40 dX6_movePapers_39 (v := 4) (by decide) rfl ?_
          refine gw_cVp C 43 dX6_movePapers_40 rfl yv_X6_of lk_X6_54 [.int x1, .int (4 : Int32)] [] rfl (ct_X6_of (E := E) (l := ps_l X) x1 (4 : Int32) M ((((hk.2.2 c5).2.2 c13).2.2 c26).2 c31).1) pm_recv rfl (Nat.le_of_ble_eq_true rfl) (Nat.le_of_ble_eq_true rfl) (Nat.le_of_ble_eq_true rfl) ?_
          refine gw_iload_n C 44 dX6_movePapers_43 3 rfl rfl ?_
          refine gw_ic_ge C 50 47 dX6_movePapers_44 (by decide) rfl (fun c44 => ?_) (fun c44 => ?_)
          · refine gw_aload_n C 51 dX6_movePapers_50 0 rfl rfl ?_
            refine gw_iload_n C 52 dX6_movePapers_51 2 rfl rfl ?_
            refine gw_iconst C 53 dX6_movePapers_52 (v := 4) (by decide) rfl ?_
            refine gw_cVp C 56 dX6_movePapers_53 rfl yv_X6_of lk_X6_54 [.int x2, .int (4 : Int32)] [] rfl (ct_X6_of (E := E) (l := ps_l X) x2 (4 : Int32) M (((((hk.2.2 c5).2.2 c13).2.2 c26).2 c31).2.1 c44).1) pm_recv rfl (Nat.le_of_ble_eq_true rfl) (Nat.le_of_ble_eq_true rfl) (Nat.le_of_ble_eq_true rfl) ?_
            refine gw_iload_n C 57 dX6_movePapers_56 3 rfl rfl ?_
            refine gw_iadd C 58 dX6_movePapers_57 rfl ?_
            refine gw_sipush C 61 dX6_movePapers_58 (v := 9999) (by decide) rfl ?_
            refine gw_ic_le C 67 64 dX6_movePapers_61 (by decide) rfl (fun c61 => ?_) (fun c61 => ?_)
            · refine gw_aload_n C 68 dX6_movePapers_67 0 rfl rfl ?_
              refine gw_cVv C 71 dX6_movePapers_68 rfl yv_X6_records lk_X6_40 [] [] rfl (ct_X6_records (E := E) (l := ps_l X) M ((((((hk.2.2 c5).2.2 c13).2.2 c26).2 c31).2.1 c44).2.1 c61).1) pm_recv rfl (Nat.le_of_ble_eq_true rfl) (Nat.le_of_ble_eq_true rfl) (Nat.le_of_ble_eq_true rfl) ?_
              refine gw_aload_n C 72 dX6_movePapers_71 0 rfl rfl ?_
              refine gw_iload_n C 73 dX6_movePapers_72 1 rfl rfl ?_
              refine gw_iconst C 74 dX6_movePapers_73 (v := 4) (by decide) rfl ?_
              refine gw_iload_n C 75 dX6_movePapers_74 3 rfl rfl ?_
              refine gw_ineg C 76 dX6_movePapers_75 rfl ?_
              refine gw_cVv C 79 dX6_movePapers_76 rfl yv_X6_adds lk_X6_43 [.int x1, .int (4 : Int32), .int (-x3)] [] rfl (ct_X6_adds (E := E) (l := ps_l X) x1 (4 : Int32) (-x3) (fv_X6_records M) ((((((hk.2.2 c5).2.2 c13).2.2 c26).2 c31).2.1 c44).2.1 c61).2.1) pm_recv rfl (Nat.le_of_ble_eq_true rfl) (Nat.le_of_ble_eq_true rfl) (Nat.le_of_ble_eq_true rfl) ?_
              refine gw_aload_n C 80 dX6_movePapers_79 0 rfl rfl ?_
              refine gw_iload_n C 81 dX6_movePapers_80 2 rfl rfl ?_
              refine gw_iconst C 82 dX6_movePapers_81 (v := 4) (by decide) rfl ?_
              refine gw_iload_n C 83 dX6_movePapers_82 3 rfl rfl ?_
              refine gw_cVv C 86 dX6_movePapers_83 rfl yv_X6_adds lk_X6_43 [.int x2, .int (4 : Int32), .int x3] [] rfl (ct_X6_adds (E := E) (l := ps_l X) x2 (4 : Int32) x3 (fv_X6_adds x1 (4 : Int32) (-x3) (fv_X6_records M)) ((((((hk.2.2 c5).2.2 c13).2.2 c26).2 c31).2.1 c44).2.1 c61).2.2.1) pm_recv rfl (Nat.le_of_ble_eq_true rfl) (Nat.le_of_ble_eq_true rfl) (Nat.le_of_ble_eq_true rfl) ?_
              refine gw_aload_n C 87 dX6_movePapers_86 0 rfl rfl ?_
              refine gw_iload_n C 88 dX6_movePapers_87 1 rfl rfl ?_
              refine gw_iconst C 89 dX6_movePapers_88 (v := 4) (by decide) rfl ?_
              refine gw_cVp C 92 dX6_movePapers_89 rfl yv_X6_of lk_X6_54 [.int x1, .int (4 : Int32)] [] rfl (ct_X6_of (E := E) (l := ps_l X) x1 (4 : Int32) (fv_X6_adds x2 (4 : Int32) x3 (fv_X6_adds x1 (4 : Int32) (-x3) (fv_X6_records M))) ((((((hk.2.2 c5).2.2 c13).2.2 c26).2 c31).2.1 c44).2.1 c61).2.2.2.1) pm_recv rfl (Nat.le_of_ble_eq_true rfl) (Nat.le_of_ble_eq_true rfl) (Nat.le_of_ble_eq_true rfl) ?_
              exact RT _ _ _ _ dX6_movePapers_92 rfl
            · refine gw_bipush C 66 dX6_movePapers_64 (v := (-3)) (by decide) rfl ?_
              exact RT _ _ _ _ dX6_movePapers_66 rfl
          · refine gw_bipush C 49 dX6_movePapers_47 (v := (-4)) (by decide) rfl ?_
            exact RT _ _ _ _ dX6_movePapers_49 rfl
theorem ct_X6_movePapers {E : ps_E} {l : Launch} (x1 : Int32) (x2 : Int32) (x3 : Int32)  (M : ps_M) (hk : ok_X6_movePapers x1 x2 x3 M) : ps_CI (pm_Y E) l yX6_movePapers cX6_movePapers 4 (some .int) 2 45 [.ref (ps_ad E 0), .int x1, .int x2, .int x3] M (fv_X6_movePapers x1 x2 x3 M) := ps_metI RX6 (by decide) rfl (Nat.le_of_ble_eq_true rfl) rfl (fun X _ C RT => bw_X6_movePapers C RT x1 x2 x3 M hk)
def fv_X6_spoil (x1 : Int32) (x2 : Int32) (M : ps_M) : Int32 × ps_M := if (fv_X6_isStation x1 M) = 0 then (((-1 : Int32), M)) else (if (fv_X6_in x2 (1 : Int32) (9999 : Int32) M) = 0 then (((-2 : Int32), M)) else (if (fv_X6_of x1 (9 : Int32) M) < x2 then (((-4 : Int32), M)) else (if x2 ≤ (fv_X6_of x1 (4 : Int32) M) then (((fv_X6_of x1 (4 : Int32) (fv_X6_adds x1 (4 : Int32) (-x2) (fv_X6_adds x1 (5 : Int32) x2 (fv_X6_adds x1 (6 : Int32) x2 (fv_X6_records M))))), (fv_X6_adds x1 (4 : Int32) (-x2) (fv_X6_adds x1 (5 : Int32) x2 (fv_X6_adds x1 (6 : Int32) x2 (fv_X6_records M)))))) else (((-4 : Int32), M)))))
def ok_X6_spoil (x1 : Int32) (x2 : Int32) (M : ps_M) : Prop := (ok_X6_isStation x1 M) ∧ (((fv_X6_isStation x1 M) = 0 → True) ∧ (¬ ((fv_X6_isStation x1 M) = 0) → ((ok_X6_in x2 (1 : Int32) (9999 : Int32) M) ∧ (((fv_X6_in x2 (1 : Int32) (9999 : Int32) M) = 0 → True) ∧ (¬ ((fv_X6_in x2 (1 : Int32) (9999 : Int32) M) = 0) → ((ok_X6_of x1 (9 : Int32) M) ∧ (((fv_X6_of x1 (9 : Int32) M) < x2 → True) ∧ (¬ ((fv_X6_of x1 (9 : Int32) M) < x2) → ((ok_X6_of x1 (4 : Int32) M) ∧ ((x2 ≤ (fv_X6_of x1 (4 : Int32) M) → ((ok_X6_records M) ∧ ((ok_X6_adds x1 (6 : Int32) x2 (fv_X6_records M)) ∧ ((ok_X6_adds x1 (5 : Int32) x2 (fv_X6_adds x1 (6 : Int32) x2 (fv_X6_records M))) ∧ ((ok_X6_adds x1 (4 : Int32) (-x2) (fv_X6_adds x1 (5 : Int32) x2 (fv_X6_adds x1 (6 : Int32) x2 (fv_X6_records M)))) ∧ ((ok_X6_of x1 (4 : Int32) (fv_X6_adds x1 (4 : Int32) (-x2) (fv_X6_adds x1 (5 : Int32) x2 (fv_X6_adds x1 (6 : Int32) x2 (fv_X6_records M))))) ∧ True)))))) ∧ (¬ (x2 ≤ (fv_X6_of x1 (4 : Int32) M)) → True)))))))))))
set_option maxRecDepth 100000 in
set_option maxHeartbeats 4000000 in
theorem bw_X6_spoil {E : ps_E} {X : ps_X (Int32 × ps_M)} (C : ps_C (pm_Y E) X cX6_spoil RX6 (some .int) 2 45 3) (RT : ps_RI (pm_Y E) X cX6_spoil .int) (x1 : Int32) (x2 : Int32) (M : ps_M) (hk : ok_X6_spoil x1 x2 M) : ps_G (pm_Y E) X (fv_X6_spoil x1 x2 M) 0 [(0, .ref (ps_ad E 0)), (1, .int x1), (2, .int x2)] [] M := by
  unfold fv_X6_spoil
  unfold ok_X6_spoil at hk
  refine gw_aload_n C 1 dX6_spoil_0 0 rfl rfl ?_
  refine gw_iload_n C 2 dX6_spoil_1 1 rfl rfl ?_
  refine gw_cVp C 5 dX6_spoil_2 rfl yv_X6_isStation lk_X6_50 [.int x1] [] rfl (ct_X6_isStation (E := E) (l := ps_l X) x1 M hk.1) pm_recv rfl (Nat.le_of_ble_eq_true rfl) (Nat.le_of_ble_eq_true rfl) (Nat.le_of_ble_eq_true rfl) ?_
  refine gw_if_ne C 10 8 dX6_spoil_5 (by decide) rfl (fun c5 => ?_) (fun c5 => ?_)
  · refine gw_iconst C 9 dX6_spoil_8 (v := (-1)) (by decide) rfl ?_
    exact RT _ _ _ _ dX6_spoil_9 rfl
  · refine gw_iload_n C 11 dX6_spoil_10 2 rfl rfl ?_
    refine gw_iconst C 12 dX6_spoil_11 (v := 1) (by decide) rfl ?_
    refine gw_sipush C 15 dX6_spoil_12 (v := 9999) (by decide) rfl ?_
    refine gw_cSp C 18 dX6_spoil_15 rfl yv_X6_in lk_X6_36 [.int x2, .int (1 : Int32), .int (9999 : Int32)] [] rfl (ct_X6_in (E := E) (l := ps_l X) x2 (1 : Int32) (9999 : Int32) M (hk.2.2 c5).1) rfl (Nat.le_of_ble_eq_true rfl) (Nat.le_of_ble_eq_true rfl) (Nat.le_of_ble_eq_true rfl) ?_
    refine gw_if_ne C 24 21 dX6_spoil_18 (by decide) rfl (fun c18 => ?_) (fun c18 => ?_)
    · refine gw_bipush C 23 dX6_spoil_21 (v := (-2)) (by decide) rfl ?_
      exact RT _ _ _ _ dX6_spoil_23 rfl
    · refine gw_aload_n C 25 dX6_spoil_24 0 rfl rfl ?_
      refine gw_iload_n C 26 dX6_spoil_25 1 rfl rfl ?_
      refine gw_bipush C 28 dX6_spoil_26 (v := 9) (by decide) rfl ?_
      refine gw_cVp C 31 dX6_spoil_28 rfl yv_X6_of lk_X6_54 [.int x1, .int (9 : Int32)] [] rfl (ct_X6_of (E := E) (l := ps_l X) x1 (9 : Int32) M ((hk.2.2 c5).2.2 c18).1) pm_recv rfl (Nat.le_of_ble_eq_true rfl) (Nat.le_of_ble_eq_true rfl) (Nat.le_of_ble_eq_true rfl) ?_
      refine gw_iload_n C 32 dX6_spoil_31 2 rfl rfl ?_
      refine gw_ic_lt C 45 35 dX6_spoil_32 (by decide) rfl (fun c32 => ?_) (fun c32 => ?_)
      · refine gw_bipush C 47 dX6_spoil_45 (v := (-4)) (by decide) rfl ?_
        exact RT _ _ _ _ dX6_spoil_47 rfl
      · refine gw_aload_n C 36 dX6_spoil_35 0 rfl rfl ?_
        refine gw_iload_n C 37 dX6_spoil_36 1 rfl rfl ?_
        refine gw_iconst C 38 dX6_spoil_37 (v := 4) (by decide) rfl ?_
        refine gw_cVp C 41 dX6_spoil_38 rfl yv_X6_of lk_X6_54 [.int x1, .int (4 : Int32)] [] rfl (ct_X6_of (E := E) (l := ps_l X) x1 (4 : Int32) M (((hk.2.2 c5).2.2 c18).2.2 c32).1) pm_recv rfl (Nat.le_of_ble_eq_true rfl) (Nat.le_of_ble_eq_true rfl) (Nat.le_of_ble_eq_true rfl) ?_
        refine gw_iload_n C 42 dX6_spoil_41 2 rfl rfl ?_
        refine gw_ic_ge C 48 45 dX6_spoil_42 (by decide) rfl (fun c42 => ?_) (fun c42 => ?_)
        · refine gw_aload_n C 49 dX6_spoil_48 0 rfl rfl ?_
          refine gw_cVv C 52 dX6_spoil_49 rfl yv_X6_records lk_X6_40 [] [] rfl (ct_X6_records (E := E) (l := ps_l X) M ((((hk.2.2 c5).2.2 c18).2.2 c32).2.1 c42).1) pm_recv rfl (Nat.le_of_ble_eq_true rfl) (Nat.le_of_ble_eq_true rfl) (Nat.le_of_ble_eq_true rfl) ?_
          refine gw_aload_n C 53 dX6_spoil_52 0 rfl rfl ?_
          refine gw_iload_n C 54 dX6_spoil_53 1 rfl rfl ?_
          refine gw_bipush C 56 dX6_spoil_54 (v := 6) (by decide) rfl ?_
          refine gw_iload_n C 57 dX6_spoil_56 2 rfl rfl ?_
          refine gw_cVv C 60 dX6_spoil_57 rfl yv_X6_adds lk_X6_43 [.int x1, .int (6 : Int32), .int x2] [] rfl (ct_X6_adds (E := E) (l := ps_l X) x1 (6 : Int32) x2 (fv_X6_records M) ((((hk.2.2 c5).2.2 c18).2.2 c32).2.1 c42).2.1) pm_recv rfl (Nat.le_of_ble_eq_true rfl) (Nat.le_of_ble_eq_true rfl) (Nat.le_of_ble_eq_true rfl) ?_
          refine gw_aload_n C 61 dX6_spoil_60 0 rfl rfl ?_
          refine gw_iload_n C 62 dX6_spoil_61 1 rfl rfl ?_
          refine gw_iconst C 63 dX6_spoil_62 (v := 5) (by decide) rfl ?_
          refine gw_iload_n C 64 dX6_spoil_63 2 rfl rfl ?_
          refine gw_cVv C 67 dX6_spoil_64 rfl yv_X6_adds lk_X6_43 [.int x1, .int (5 : Int32), .int x2] [] rfl (ct_X6_adds (E := E) (l := ps_l X) x1 (5 : Int32) x2 (fv_X6_adds x1 (6 : Int32) x2 (fv_X6_records M)) ((((hk.2.2 c5).2.2 c18).2.2 c32).2.1 c42).2.2.1) pm_recv rfl (Nat.le_of_ble_eq_true rfl) (Nat.le_of_ble_eq_true rfl) (Nat.le_of_ble_eq_true rfl) ?_
          refine gw_aload_n C 68 dX6_spoil_67 0 rfl rfl ?_
          refine gw_iload_n C 69 dX6_spoil_68 1 rfl rfl ?_
          refine gw_iconst C 70 dX6_spoil_69 (v := 4) (by decide) rfl ?_
          refine gw_iload_n C 71 dX6_spoil_70 2 rfl rfl ?_
          refine gw_ineg C 72 dX6_spoil_71 rfl ?_
          refine gw_cVv C 75 dX6_spoil_72 rfl yv_X6_adds lk_X6_43 [.int x1, .int (4 : Int32), .int (-x2)] [] rfl (ct_X6_adds (E := E) (l := ps_l X) x1 (4 : Int32) (-x2) (fv_X6_adds x1 (5 : Int32) x2 (fv_X6_adds x1 (6 : Int32) x2 (fv_X6_records M))) ((((hk.2.2 c5).2.2 c18).2.2 c32).2.1 c42).2.2.2.1) pm_recv rfl (Nat.le_of_ble_eq_true rfl) (Nat.le_of_ble_eq_true rfl) (Nat.le_of_ble_eq_true rfl) ?_
          refine gw_aload_n C 76 dX6_spoil_75 0 rfl rfl ?_
          refine gw_iload_n C 77 dX6_spoil_76 1 rfl rfl ?_
          refine gw_iconst C 78 dX6_spoil_77 (v := 4) (by decide) rfl ?_
          refine gw_cVp C 81 dX6_spoil_78 rfl yv_X6_of lk_X6_54 [.int x1, .int (4 : Int32)] [] rfl (ct_X6_of (E := E) (l := ps_l X) x1 (4 : Int32) (fv_X6_adds x1 (4 : Int32) (-x2) (fv_X6_adds x1 (5 : Int32) x2 (fv_X6_adds x1 (6 : Int32) x2 (fv_X6_records M)))) ((((hk.2.2 c5).2.2 c18).2.2 c32).2.1 c42).2.2.2.2.1) pm_recv rfl (Nat.le_of_ble_eq_true rfl) (Nat.le_of_ble_eq_true rfl) (Nat.le_of_ble_eq_true rfl) ?_
          exact RT _ _ _ _ dX6_spoil_81 rfl
        · refine gw_bipush C 47 dX6_spoil_45 (v := (-4)) (by decide) rfl ?_
          exact RT _ _ _ _ dX6_spoil_47 rfl
theorem ct_X6_spoil {E : ps_E} {l : Launch} (x1 : Int32) (x2 : Int32)  (M : ps_M) (hk : ok_X6_spoil x1 x2 M) : ps_CI (pm_Y E) l yX6_spoil cX6_spoil 3 (some .int) 2 45 [.ref (ps_ad E 0), .int x1, .int x2] M (fv_X6_spoil x1 x2 M) := ps_metI RX6 (by decide) rfl (Nat.le_of_ble_eq_true rfl) rfl (fun X _ C RT => bw_X6_spoil C RT x1 x2 M hk)
def fv_X6_carryOff (x1 : Int32) (x2 : Int32) (M : ps_M) : Int32 × ps_M := if (fv_X6_isStation x1 M) = 0 then (((-1 : Int32), M)) else (if (fv_X6_in x2 (1 : Int32) (9999 : Int32) M) = 0 then (((-2 : Int32), M)) else (if x2 ≤ (fv_X6_of x1 (9 : Int32) M) then (((fv_X6_of x1 (9 : Int32) (fv_X6_adds x1 (7 : Int32) x2 (fv_X6_adds x1 (9 : Int32) (-x2) (fv_X6_records M)))), (fv_X6_adds x1 (7 : Int32) x2 (fv_X6_adds x1 (9 : Int32) (-x2) (fv_X6_records M))))) else (((-4 : Int32), M))))
def ok_X6_carryOff (x1 : Int32) (x2 : Int32) (M : ps_M) : Prop := (ok_X6_isStation x1 M) ∧ (((fv_X6_isStation x1 M) = 0 → True) ∧ (¬ ((fv_X6_isStation x1 M) = 0) → ((ok_X6_in x2 (1 : Int32) (9999 : Int32) M) ∧ (((fv_X6_in x2 (1 : Int32) (9999 : Int32) M) = 0 → True) ∧ (¬ ((fv_X6_in x2 (1 : Int32) (9999 : Int32) M) = 0) → ((ok_X6_of x1 (9 : Int32) M) ∧ ((x2 ≤ (fv_X6_of x1 (9 : Int32) M) → ((ok_X6_records M) ∧ ((ok_X6_adds x1 (9 : Int32) (-x2) (fv_X6_records M)) ∧ ((ok_X6_adds x1 (7 : Int32) x2 (fv_X6_adds x1 (9 : Int32) (-x2) (fv_X6_records M))) ∧ ((ok_X6_of x1 (9 : Int32) (fv_X6_adds x1 (7 : Int32) x2 (fv_X6_adds x1 (9 : Int32) (-x2) (fv_X6_records M)))) ∧ True))))) ∧ (¬ (x2 ≤ (fv_X6_of x1 (9 : Int32) M)) → True))))))))
set_option maxRecDepth 100000 in
set_option maxHeartbeats 4000000 in
theorem bw_X6_carryOff {E : ps_E} {X : ps_X (Int32 × ps_M)} (C : ps_C (pm_Y E) X cX6_carryOff RX6 (some .int) 2 45 3) (RT : ps_RI (pm_Y E) X cX6_carryOff .int) (x1 : Int32) (x2 : Int32) (M : ps_M) (hk : ok_X6_carryOff x1 x2 M) : ps_G (pm_Y E) X (fv_X6_carryOff x1 x2 M) 0 [(0, .ref (ps_ad E 0)), (1, .int x1), (2, .int x2)] [] M := by
  unfold fv_X6_carryOff
  unfold ok_X6_carryOff at hk
  refine gw_aload_n C 1 dX6_carryOff_0 0 rfl rfl ?_
  refine gw_iload_n C 2 dX6_carryOff_1 1 rfl rfl ?_
  refine gw_cVp C 5 dX6_carryOff_2 rfl yv_X6_isStation lk_X6_50 [.int x1] [] rfl (ct_X6_isStation (E := E) (l := ps_l X) x1 M hk.1) pm_recv rfl (Nat.le_of_ble_eq_true rfl) (Nat.le_of_ble_eq_true rfl) (Nat.le_of_ble_eq_true rfl) ?_
  refine gw_if_ne C 10 8 dX6_carryOff_5 (by decide) rfl (fun c5 => ?_) (fun c5 => ?_)
  · refine gw_iconst C 9 dX6_carryOff_8 (v := (-1)) (by decide) rfl ?_
    exact RT _ _ _ _ dX6_carryOff_9 rfl
  · refine gw_iload_n C 11 dX6_carryOff_10 2 rfl rfl ?_
    refine gw_iconst C 12 dX6_carryOff_11 (v := 1) (by decide) rfl ?_
    refine gw_sipush C 15 dX6_carryOff_12 (v := 9999) (by decide) rfl ?_
    refine gw_cSp C 18 dX6_carryOff_15 rfl yv_X6_in lk_X6_36 [.int x2, .int (1 : Int32), .int (9999 : Int32)] [] rfl (ct_X6_in (E := E) (l := ps_l X) x2 (1 : Int32) (9999 : Int32) M (hk.2.2 c5).1) rfl (Nat.le_of_ble_eq_true rfl) (Nat.le_of_ble_eq_true rfl) (Nat.le_of_ble_eq_true rfl) ?_
    refine gw_if_ne C 24 21 dX6_carryOff_18 (by decide) rfl (fun c18 => ?_) (fun c18 => ?_)
    · refine gw_bipush C 23 dX6_carryOff_21 (v := (-2)) (by decide) rfl ?_
      exact RT _ _ _ _ dX6_carryOff_23 rfl
    · refine gw_aload_n C 25 dX6_carryOff_24 0 rfl rfl ?_
      refine gw_iload_n C 26 dX6_carryOff_25 1 rfl rfl ?_
      refine gw_bipush C 28 dX6_carryOff_26 (v := 9) (by decide) rfl ?_
      refine gw_cVp C 31 dX6_carryOff_28 rfl yv_X6_of lk_X6_54 [.int x1, .int (9 : Int32)] [] rfl (ct_X6_of (E := E) (l := ps_l X) x1 (9 : Int32) M ((hk.2.2 c5).2.2 c18).1) pm_recv rfl (Nat.le_of_ble_eq_true rfl) (Nat.le_of_ble_eq_true rfl) (Nat.le_of_ble_eq_true rfl) ?_
      refine gw_iload_n C 32 dX6_carryOff_31 2 rfl rfl ?_
      refine gw_ic_ge C 38 35 dX6_carryOff_32 (by decide) rfl (fun c32 => ?_) (fun c32 => ?_)
      · refine gw_aload_n C 39 dX6_carryOff_38 0 rfl rfl ?_
        refine gw_cVv C 42 dX6_carryOff_39 rfl yv_X6_records lk_X6_40 [] [] rfl (ct_X6_records (E := E) (l := ps_l X) M (((hk.2.2 c5).2.2 c18).2.1 c32).1) pm_recv rfl (Nat.le_of_ble_eq_true rfl) (Nat.le_of_ble_eq_true rfl) (Nat.le_of_ble_eq_true rfl) ?_
        refine gw_aload_n C 43 dX6_carryOff_42 0 rfl rfl ?_
        refine gw_iload_n C 44 dX6_carryOff_43 1 rfl rfl ?_
        refine gw_bipush C 46 dX6_carryOff_44 (v := 9) (by decide) rfl ?_
        refine gw_iload_n C 47 dX6_carryOff_46 2 rfl rfl ?_
        refine gw_ineg C 48 dX6_carryOff_47 rfl ?_
        refine gw_cVv C 51 dX6_carryOff_48 rfl yv_X6_adds lk_X6_43 [.int x1, .int (9 : Int32), .int (-x2)] [] rfl (ct_X6_adds (E := E) (l := ps_l X) x1 (9 : Int32) (-x2) (fv_X6_records M) (((hk.2.2 c5).2.2 c18).2.1 c32).2.1) pm_recv rfl (Nat.le_of_ble_eq_true rfl) (Nat.le_of_ble_eq_true rfl) (Nat.le_of_ble_eq_true rfl) ?_
        refine gw_aload_n C 52 dX6_carryOff_51 0 rfl rfl ?_
        refine gw_iload_n C 53 dX6_carryOff_52 1 rfl rfl ?_
        refine gw_bipush C 55 dX6_carryOff_53 (v := 7) (by decide) rfl ?_
        refine gw_iload_n C 56 dX6_carryOff_55 2 rfl rfl ?_
        refine gw_cVv C 59 dX6_carryOff_56 rfl yv_X6_adds lk_X6_43 [.int x1, .int (7 : Int32), .int x2] [] rfl (ct_X6_adds (E := E) (l := ps_l X) x1 (7 : Int32) x2 (fv_X6_adds x1 (9 : Int32) (-x2) (fv_X6_records M)) (((hk.2.2 c5).2.2 c18).2.1 c32).2.2.1) pm_recv rfl (Nat.le_of_ble_eq_true rfl) (Nat.le_of_ble_eq_true rfl) (Nat.le_of_ble_eq_true rfl) ?_
        refine gw_aload_n C 60 dX6_carryOff_59 0 rfl rfl ?_
        refine gw_iload_n C 61 dX6_carryOff_60 1 rfl rfl ?_
        refine gw_bipush C 63 dX6_carryOff_61 (v := 9) (by decide) rfl ?_
        refine gw_cVp C 66 dX6_carryOff_63 rfl yv_X6_of lk_X6_54 [.int x1, .int (9 : Int32)] [] rfl (ct_X6_of (E := E) (l := ps_l X) x1 (9 : Int32) (fv_X6_adds x1 (7 : Int32) x2 (fv_X6_adds x1 (9 : Int32) (-x2) (fv_X6_records M))) (((hk.2.2 c5).2.2 c18).2.1 c32).2.2.2.1) pm_recv rfl (Nat.le_of_ble_eq_true rfl) (Nat.le_of_ble_eq_true rfl) (Nat.le_of_ble_eq_true rfl) ?_
        exact RT _ _ _ _ dX6_carryOff_66 rfl
      · refine gw_bipush C 37 dX6_carryOff_35 (v := (-4)) (by decide) rfl ?_
        exact RT _ _ _ _ dX6_carryOff_37 rfl
theorem ct_X6_carryOff {E : ps_E} {l : Launch} (x1 : Int32) (x2 : Int32)  (M : ps_M) (hk : ok_X6_carryOff x1 x2 M) : ps_CI (pm_Y E) l yX6_carryOff cX6_carryOff 3 (some .int) 2 45 [.ref (ps_ad E 0), .int x1, .int x2] M (fv_X6_carryOff x1 x2 M) := ps_metI RX6 (by decide) rfl (Nat.le_of_ble_eq_true rfl) rfl (fun X _ C RT => bw_X6_carryOff C RT x1 x2 M hk)
def fv_X6_find (x1 : Int32) (x2 : Int32) (M : ps_M) : Int32 × ps_M := if (fv_X6_isStation x1 M) = 0 then (((-1 : Int32), M)) else (if (fv_X6_in x2 (1 : Int32) (9999 : Int32) M) = 0 then (((-2 : Int32), M)) else (if x2 ≤ (fv_X6_of x1 (7 : Int32) M) then (((fv_X6_of x1 (7 : Int32) (fv_X6_adds x1 (8 : Int32) x2 (fv_X6_adds x1 (7 : Int32) (-x2) (fv_X6_records M)))), (fv_X6_adds x1 (8 : Int32) x2 (fv_X6_adds x1 (7 : Int32) (-x2) (fv_X6_records M))))) else (((-4 : Int32), M))))
def ok_X6_find (x1 : Int32) (x2 : Int32) (M : ps_M) : Prop := (ok_X6_isStation x1 M) ∧ (((fv_X6_isStation x1 M) = 0 → True) ∧ (¬ ((fv_X6_isStation x1 M) = 0) → ((ok_X6_in x2 (1 : Int32) (9999 : Int32) M) ∧ (((fv_X6_in x2 (1 : Int32) (9999 : Int32) M) = 0 → True) ∧ (¬ ((fv_X6_in x2 (1 : Int32) (9999 : Int32) M) = 0) → ((ok_X6_of x1 (7 : Int32) M) ∧ ((x2 ≤ (fv_X6_of x1 (7 : Int32) M) → ((ok_X6_records M) ∧ ((ok_X6_adds x1 (7 : Int32) (-x2) (fv_X6_records M)) ∧ ((ok_X6_adds x1 (8 : Int32) x2 (fv_X6_adds x1 (7 : Int32) (-x2) (fv_X6_records M))) ∧ ((ok_X6_of x1 (7 : Int32) (fv_X6_adds x1 (8 : Int32) x2 (fv_X6_adds x1 (7 : Int32) (-x2) (fv_X6_records M)))) ∧ True))))) ∧ (¬ (x2 ≤ (fv_X6_of x1 (7 : Int32) M)) → True))))))))
set_option maxRecDepth 100000 in
set_option maxHeartbeats 4000000 in
theorem bw_X6_find {E : ps_E} {X : ps_X (Int32 × ps_M)} (C : ps_C (pm_Y E) X cX6_find RX6 (some .int) 2 45 3) (RT : ps_RI (pm_Y E) X cX6_find .int) (x1 : Int32) (x2 : Int32) (M : ps_M) (hk : ok_X6_find x1 x2 M) : ps_G (pm_Y E) X (fv_X6_find x1 x2 M) 0 [(0, .ref (ps_ad E 0)), (1, .int x1), (2, .int x2)] [] M := by
  unfold fv_X6_find
  unfold ok_X6_find at hk
  refine gw_aload_n C 1 dX6_find_0 0 rfl rfl ?_
  refine gw_iload_n C 2 dX6_find_1 1 rfl rfl ?_
  refine gw_cVp C 5 dX6_find_2 rfl yv_X6_isStation lk_X6_50 [.int x1] [] rfl (ct_X6_isStation (E := E) (l := ps_l X) x1 M hk.1) pm_recv rfl (Nat.le_of_ble_eq_true rfl) (Nat.le_of_ble_eq_true rfl) (Nat.le_of_ble_eq_true rfl) ?_
  refine gw_if_ne C 10 8 dX6_find_5 (by decide) rfl (fun c5 => ?_) (fun c5 => ?_)
  · refine gw_iconst C 9 dX6_find_8 (v := (-1)) (by decide) rfl ?_
    exact RT _ _ _ _ dX6_find_9 rfl
  · refine gw_iload_n C 11 dX6_find_10 2 rfl rfl ?_
    refine gw_iconst C 12 dX6_find_11 (v := 1) (by decide) rfl ?_
    refine gw_sipush C 15 dX6_find_12 (v := 9999) (by decide) rfl ?_
    refine gw_cSp C 18 dX6_find_15 rfl yv_X6_in lk_X6_36 [.int x2, .int (1 : Int32), .int (9999 : Int32)] [] rfl (ct_X6_in (E := E) (l := ps_l X) x2 (1 : Int32) (9999 : Int32) M (hk.2.2 c5).1) rfl (Nat.le_of_ble_eq_true rfl) (Nat.le_of_ble_eq_true rfl) (Nat.le_of_ble_eq_true rfl) ?_
    refine gw_if_ne C 24 21 dX6_find_18 (by decide) rfl (fun c18 => ?_) (fun c18 => ?_)
    · refine gw_bipush C 23 dX6_find_21 (v := (-2)) (by decide) rfl ?_
      exact RT _ _ _ _ dX6_find_23 rfl
    · refine gw_aload_n C 25 dX6_find_24 0 rfl rfl ?_
      refine gw_iload_n C 26 dX6_find_25 1 rfl rfl ?_
      refine gw_bipush C 28 dX6_find_26 (v := 7) (by decide) rfl ?_
      refine gw_cVp C 31 dX6_find_28 rfl yv_X6_of lk_X6_54 [.int x1, .int (7 : Int32)] [] rfl (ct_X6_of (E := E) (l := ps_l X) x1 (7 : Int32) M ((hk.2.2 c5).2.2 c18).1) pm_recv rfl (Nat.le_of_ble_eq_true rfl) (Nat.le_of_ble_eq_true rfl) (Nat.le_of_ble_eq_true rfl) ?_
      refine gw_iload_n C 32 dX6_find_31 2 rfl rfl ?_
      refine gw_ic_ge C 38 35 dX6_find_32 (by decide) rfl (fun c32 => ?_) (fun c32 => ?_)
      · refine gw_aload_n C 39 dX6_find_38 0 rfl rfl ?_
        refine gw_cVv C 42 dX6_find_39 rfl yv_X6_records lk_X6_40 [] [] rfl (ct_X6_records (E := E) (l := ps_l X) M (((hk.2.2 c5).2.2 c18).2.1 c32).1) pm_recv rfl (Nat.le_of_ble_eq_true rfl) (Nat.le_of_ble_eq_true rfl) (Nat.le_of_ble_eq_true rfl) ?_
        refine gw_aload_n C 43 dX6_find_42 0 rfl rfl ?_
        refine gw_iload_n C 44 dX6_find_43 1 rfl rfl ?_
        refine gw_bipush C 46 dX6_find_44 (v := 7) (by decide) rfl ?_
        refine gw_iload_n C 47 dX6_find_46 2 rfl rfl ?_
        refine gw_ineg C 48 dX6_find_47 rfl ?_
        refine gw_cVv C 51 dX6_find_48 rfl yv_X6_adds lk_X6_43 [.int x1, .int (7 : Int32), .int (-x2)] [] rfl (ct_X6_adds (E := E) (l := ps_l X) x1 (7 : Int32) (-x2) (fv_X6_records M) (((hk.2.2 c5).2.2 c18).2.1 c32).2.1) pm_recv rfl (Nat.le_of_ble_eq_true rfl) (Nat.le_of_ble_eq_true rfl) (Nat.le_of_ble_eq_true rfl) ?_
        refine gw_aload_n C 52 dX6_find_51 0 rfl rfl ?_
        refine gw_iload_n C 53 dX6_find_52 1 rfl rfl ?_
        refine gw_bipush C 55 dX6_find_53 (v := 8) (by decide) rfl ?_
        refine gw_iload_n C 56 dX6_find_55 2 rfl rfl ?_
        refine gw_cVv C 59 dX6_find_56 rfl yv_X6_adds lk_X6_43 [.int x1, .int (8 : Int32), .int x2] [] rfl (ct_X6_adds (E := E) (l := ps_l X) x1 (8 : Int32) x2 (fv_X6_adds x1 (7 : Int32) (-x2) (fv_X6_records M)) (((hk.2.2 c5).2.2 c18).2.1 c32).2.2.1) pm_recv rfl (Nat.le_of_ble_eq_true rfl) (Nat.le_of_ble_eq_true rfl) (Nat.le_of_ble_eq_true rfl) ?_
        refine gw_aload_n C 60 dX6_find_59 0 rfl rfl ?_
        refine gw_iload_n C 61 dX6_find_60 1 rfl rfl ?_
        refine gw_bipush C 63 dX6_find_61 (v := 7) (by decide) rfl ?_
        refine gw_cVp C 66 dX6_find_63 rfl yv_X6_of lk_X6_54 [.int x1, .int (7 : Int32)] [] rfl (ct_X6_of (E := E) (l := ps_l X) x1 (7 : Int32) (fv_X6_adds x1 (8 : Int32) x2 (fv_X6_adds x1 (7 : Int32) (-x2) (fv_X6_records M))) (((hk.2.2 c5).2.2 c18).2.1 c32).2.2.2.1) pm_recv rfl (Nat.le_of_ble_eq_true rfl) (Nat.le_of_ble_eq_true rfl) (Nat.le_of_ble_eq_true rfl) ?_
        exact RT _ _ _ _ dX6_find_66 rfl
      · refine gw_bipush C 37 dX6_find_35 (v := (-4)) (by decide) rfl ?_
        exact RT _ _ _ _ dX6_find_37 rfl
theorem ct_X6_find {E : ps_E} {l : Launch} (x1 : Int32) (x2 : Int32)  (M : ps_M) (hk : ok_X6_find x1 x2 M) : ps_CI (pm_Y E) l yX6_find cX6_find 3 (some .int) 2 45 [.ref (ps_ad E 0), .int x1, .int x2] M (fv_X6_find x1 x2 M) := ps_metI RX6 (by decide) rfl (Nat.le_of_ble_eq_true rfl) rfl (fun X _ C RT => bw_X6_find C RT x1 x2 M hk)
def fv_X6_countBox (x1 : Int32) (x2 : Int32) (M : ps_M) : Int32 × ps_M := if (fv_X6_isStation x1 M) = 0 then (((-1 : Int32), M)) else (if (fv_X6_in x2 (0 : Int32) (99999 : Int32) M) = 0 then (((-2 : Int32), M)) else (if (M 1 ((0 : Int32)).toNatClampNeg) < (15 : Int32) then (((-4 : Int32), M)) else (if (fv_X6_of x1 (0 : Int32) M) ≤ 0 then (if (fv_X6_of x1 (11 : Int32) M) = (3 : Int32) then (((-3 : Int32), M)) else (((fv_X6_of x1 (11 : Int32) (fv_X6_adds x1 (11 : Int32) (1 : Int32) (fv_X6_adds x1 (10 : Int32) (x2 - (fv_X6_of x1 (10 : Int32) (fv_X6_records M))) (fv_X6_records M)))), (fv_X6_adds x1 (11 : Int32) (1 : Int32) (fv_X6_adds x1 (10 : Int32) (x2 - (fv_X6_of x1 (10 : Int32) (fv_X6_records M))) (fv_X6_records M)))))) else (((-4 : Int32), M)))))
def ok_X6_countBox (x1 : Int32) (x2 : Int32) (M : ps_M) : Prop := (ok_X6_isStation x1 M) ∧ (((fv_X6_isStation x1 M) = 0 → True) ∧ (¬ ((fv_X6_isStation x1 M) = 0) → ((ok_X6_in x2 (0 : Int32) (99999 : Int32) M) ∧ (((fv_X6_in x2 (0 : Int32) (99999 : Int32) M) = 0 → True) ∧ (¬ ((fv_X6_in x2 (0 : Int32) (99999 : Int32) M) = 0) → ((vp_in (0 : Int32) 237) ∧ (((M 1 ((0 : Int32)).toNatClampNeg) < (15 : Int32) → True) ∧ (¬ ((M 1 ((0 : Int32)).toNatClampNeg) < (15 : Int32)) → ((ok_X6_of x1 (0 : Int32) M) ∧ (((fv_X6_of x1 (0 : Int32) M) ≤ 0 → ((ok_X6_of x1 (11 : Int32) M) ∧ (((fv_X6_of x1 (11 : Int32) M) = (3 : Int32) → True) ∧ (¬ ((fv_X6_of x1 (11 : Int32) M) = (3 : Int32)) → ((ok_X6_records M) ∧ ((ok_X6_of x1 (10 : Int32) (fv_X6_records M)) ∧ ((ok_X6_adds x1 (10 : Int32) (x2 - (fv_X6_of x1 (10 : Int32) (fv_X6_records M))) (fv_X6_records M)) ∧ ((ok_X6_adds x1 (11 : Int32) (1 : Int32) (fv_X6_adds x1 (10 : Int32) (x2 - (fv_X6_of x1 (10 : Int32) (fv_X6_records M))) (fv_X6_records M))) ∧ ((ok_X6_of x1 (11 : Int32) (fv_X6_adds x1 (11 : Int32) (1 : Int32) (fv_X6_adds x1 (10 : Int32) (x2 - (fv_X6_of x1 (10 : Int32) (fv_X6_records M))) (fv_X6_records M)))) ∧ True))))))))) ∧ (¬ ((fv_X6_of x1 (0 : Int32) M) ≤ 0) → True)))))))))))
set_option maxRecDepth 100000 in
set_option maxHeartbeats 4000000 in
theorem bw_X6_countBox {E : ps_E} {X : ps_X (Int32 × ps_M)} (C : ps_C (pm_Y E) X cX6_countBox RX6 (some .int) 2 45 3) (RT : ps_RI (pm_Y E) X cX6_countBox .int) (x1 : Int32) (x2 : Int32) (M : ps_M) (hk : ok_X6_countBox x1 x2 M) : ps_G (pm_Y E) X (fv_X6_countBox x1 x2 M) 0 [(0, .ref (ps_ad E 0)), (1, .int x1), (2, .int x2)] [] M := by
  unfold fv_X6_countBox
  unfold ok_X6_countBox at hk
  refine gw_aload_n C 1 dX6_countBox_0 0 rfl rfl ?_
  refine gw_iload_n C 2 dX6_countBox_1 1 rfl rfl ?_
  refine gw_cVp C 5 dX6_countBox_2 rfl yv_X6_isStation lk_X6_50 [.int x1] [] rfl (ct_X6_isStation (E := E) (l := ps_l X) x1 M hk.1) pm_recv rfl (Nat.le_of_ble_eq_true rfl) (Nat.le_of_ble_eq_true rfl) (Nat.le_of_ble_eq_true rfl) ?_
  refine gw_if_ne C 10 8 dX6_countBox_5 (by decide) rfl (fun c5 => ?_) (fun c5 => ?_)
  · refine gw_iconst C 9 dX6_countBox_8 (v := (-1)) (by decide) rfl ?_
    exact RT _ _ _ _ dX6_countBox_9 rfl
  · refine gw_iload_n C 11 dX6_countBox_10 2 rfl rfl ?_
    refine gw_iconst C 12 dX6_countBox_11 (v := 0) (by decide) rfl ?_
    refine gw_ldc C 14 dX6_countBox_12 lk_X6_97 rfl ?_
    refine gw_cSp C 17 dX6_countBox_14 rfl yv_X6_in lk_X6_36 [.int x2, .int (0 : Int32), .int (99999 : Int32)] [] rfl (ct_X6_in (E := E) (l := ps_l X) x2 (0 : Int32) (99999 : Int32) M (hk.2.2 c5).1) rfl (Nat.le_of_ble_eq_true rfl) (Nat.le_of_ble_eq_true rfl) (Nat.le_of_ble_eq_true rfl) ?_
    refine gw_if_ne C 23 20 dX6_countBox_17 (by decide) rfl (fun c17 => ?_) (fun c17 => ?_)
    · refine gw_bipush C 22 dX6_countBox_20 (v := (-2)) (by decide) rfl ?_
      exact RT _ _ _ _ dX6_countBox_22 rfl
    · refine gw_aload_n C 24 dX6_countBox_23 0 rfl rfl ?_
      refine gf_X6_7 C 27 dX6_countBox_24 rfl ?_
      refine gw_iconst C 28 dX6_countBox_27 (v := 0) (by decide) rfl ?_
      refine gm_ld C 29 dX6_countBox_28 rfl (by decide) ((hk.2.2 c5).2.2 c17).1 ?_
      refine gw_bipush C 31 dX6_countBox_29 (v := 15) (by decide) rfl ?_
      refine gw_ic_lt C 43 34 dX6_countBox_31 (by decide) rfl (fun c31 => ?_) (fun c31 => ?_)
      · refine gw_bipush C 45 dX6_countBox_43 (v := (-4)) (by decide) rfl ?_
        exact RT _ _ _ _ dX6_countBox_45 rfl
      · refine gw_aload_n C 35 dX6_countBox_34 0 rfl rfl ?_
        refine gw_iload_n C 36 dX6_countBox_35 1 rfl rfl ?_
        refine gw_iconst C 37 dX6_countBox_36 (v := 0) (by decide) rfl ?_
        refine gw_cVp C 40 dX6_countBox_37 rfl yv_X6_of lk_X6_54 [.int x1, .int (0 : Int32)] [] rfl (ct_X6_of (E := E) (l := ps_l X) x1 (0 : Int32) M (((hk.2.2 c5).2.2 c17).2.2 c31).1) pm_recv rfl (Nat.le_of_ble_eq_true rfl) (Nat.le_of_ble_eq_true rfl) (Nat.le_of_ble_eq_true rfl) ?_
        refine gw_if_le C 46 43 dX6_countBox_40 (by decide) rfl (fun c40 => ?_) (fun c40 => ?_)
        · refine gw_aload_n C 47 dX6_countBox_46 0 rfl rfl ?_
          refine gw_iload_n C 48 dX6_countBox_47 1 rfl rfl ?_
          refine gw_bipush C 50 dX6_countBox_48 (v := 11) (by decide) rfl ?_
          refine gw_cVp C 53 dX6_countBox_50 rfl yv_X6_of lk_X6_54 [.int x1, .int (11 : Int32)] [] rfl (ct_X6_of (E := E) (l := ps_l X) x1 (11 : Int32) M ((((hk.2.2 c5).2.2 c17).2.2 c31).2.1 c40).1) pm_recv rfl (Nat.le_of_ble_eq_true rfl) (Nat.le_of_ble_eq_true rfl) (Nat.le_of_ble_eq_true rfl) ?_
          refine gw_iconst C 54 dX6_countBox_53 (v := 3) (by decide) rfl ?_
          refine gw_ic_ne C 60 57 dX6_countBox_54 (by decide) rfl (fun c54 => ?_) (fun c54 => ?_)
          · refine gw_bipush C 59 dX6_countBox_57 (v := (-3)) (by decide) rfl ?_
            exact RT _ _ _ _ dX6_countBox_59 rfl
          · refine gw_aload_n C 61 dX6_countBox_60 0 rfl rfl ?_
            refine gw_cVv C 64 dX6_countBox_61 rfl yv_X6_records lk_X6_40 [] [] rfl (ct_X6_records (E := E) (l := ps_l X) M (((((hk.2.2 c5).2.2 c17).2.2 c31).2.1 c40).2.2 c54).1) pm_recv rfl (Nat.le_of_ble_eq_true rfl) (Nat.le_of_ble_eq_true rfl) (Nat.le_of_ble_eq_true rfl) ?_
            refine gw_aload_n C 65 dX6_countBox_64 0 rfl rfl ?_
            refine gw_iload_n C 66 dX6_countBox_65 1 rfl rfl ?_
            refine gw_bipush C 68 dX6_countBox_66 (v := 10) (by decide) rfl ?_
            refine gw_iload_n C 69 dX6_countBox_68 2 rfl rfl ?_
            refine gw_aload_n C 70 dX6_countBox_69 0 rfl rfl ?_
            refine gw_iload_n C 71 dX6_countBox_70 1 rfl rfl ?_
            refine gw_bipush C 73 dX6_countBox_71 (v := 10) (by decide) rfl ?_
            refine gw_cVp C 76 dX6_countBox_73 rfl yv_X6_of lk_X6_54 [.int x1, .int (10 : Int32)] [.int x2, .int (10 : Int32), .int x1, .ref (ps_ad E 0)] rfl (ct_X6_of (E := E) (l := ps_l X) x1 (10 : Int32) (fv_X6_records M) (((((hk.2.2 c5).2.2 c17).2.2 c31).2.1 c40).2.2 c54).2.1) pm_recv rfl (Nat.le_of_ble_eq_true rfl) (Nat.le_of_ble_eq_true rfl) (Nat.le_of_ble_eq_true rfl) ?_
            refine gw_isub C 77 dX6_countBox_76 rfl ?_
            refine gw_cVv C 80 dX6_countBox_77 rfl yv_X6_adds lk_X6_43 [.int x1, .int (10 : Int32), .int (x2 - (fv_X6_of x1 (10 : Int32) (fv_X6_records M)))] [] rfl (ct_X6_adds (E := E) (l := ps_l X) x1 (10 : Int32) (x2 - (fv_X6_of x1 (10 : Int32) (fv_X6_records M))) (fv_X6_records M) (((((hk.2.2 c5).2.2 c17).2.2 c31).2.1 c40).2.2 c54).2.2.1) pm_recv rfl (Nat.le_of_ble_eq_true rfl) (Nat.le_of_ble_eq_true rfl) (Nat.le_of_ble_eq_true rfl) ?_
            refine gw_aload_n C 81 dX6_countBox_80 0 rfl rfl ?_
            refine gw_iload_n C 82 dX6_countBox_81 1 rfl rfl ?_
            refine gw_bipush C 84 dX6_countBox_82 (v := 11) (by decide) rfl ?_
            refine gw_iconst C 85 dX6_countBox_84 (v := 1) (by decide) rfl ?_
            refine gw_cVv C 88 dX6_countBox_85 rfl yv_X6_adds lk_X6_43 [.int x1, .int (11 : Int32), .int (1 : Int32)] [] rfl (ct_X6_adds (E := E) (l := ps_l X) x1 (11 : Int32) (1 : Int32) (fv_X6_adds x1 (10 : Int32) (x2 - (fv_X6_of x1 (10 : Int32) (fv_X6_records M))) (fv_X6_records M)) (((((hk.2.2 c5).2.2 c17).2.2 c31).2.1 c40).2.2 c54).2.2.2.1) pm_recv rfl (Nat.le_of_ble_eq_true rfl) (Nat.le_of_ble_eq_true rfl) (Nat.le_of_ble_eq_true rfl) ?_
            refine gw_aload_n C 89 dX6_countBox_88 0 rfl rfl ?_
            refine gw_iload_n C 90 dX6_countBox_89 1 rfl rfl ?_
            refine gw_bipush C 92 dX6_countBox_90 (v := 11) (by decide) rfl ?_
            refine gw_cVp C 95 dX6_countBox_92 rfl yv_X6_of lk_X6_54 [.int x1, .int (11 : Int32)] [] rfl (ct_X6_of (E := E) (l := ps_l X) x1 (11 : Int32) (fv_X6_adds x1 (11 : Int32) (1 : Int32) (fv_X6_adds x1 (10 : Int32) (x2 - (fv_X6_of x1 (10 : Int32) (fv_X6_records M))) (fv_X6_records M))) (((((hk.2.2 c5).2.2 c17).2.2 c31).2.1 c40).2.2 c54).2.2.2.2.1) pm_recv rfl (Nat.le_of_ble_eq_true rfl) (Nat.le_of_ble_eq_true rfl) (Nat.le_of_ble_eq_true rfl) ?_
            exact RT _ _ _ _ dX6_countBox_95 rfl
        · refine gw_bipush C 45 dX6_countBox_43 (v := (-4)) (by decide) rfl ?_
          exact RT _ _ _ _ dX6_countBox_45 rfl
theorem ct_X6_countBox {E : ps_E} {l : Launch} (x1 : Int32) (x2 : Int32)  (M : ps_M) (hk : ok_X6_countBox x1 x2 M) : ps_CI (pm_Y E) l yX6_countBox cX6_countBox 3 (some .int) 2 45 [.ref (ps_ad E 0), .int x1, .int x2] M (fv_X6_countBox x1 x2 M) := ps_metI RX6 (by decide) rfl (Nat.le_of_ble_eq_true rfl) rfl (fun X _ C RT => bw_X6_countBox C RT x1 x2 M hk)
def fv_X6_type (x1 : Int32) (M : ps_M) : Int32 × ps_M := if (M 0 7) = (60 : Int32) then (((-3 : Int32), M)) else ((((ps_st (ps_st M 5 ((M 0 7)).toNatClampNeg x1) 0 7 (((ps_st M 5 ((M 0 7)).toNatClampNeg x1) 0 7) + (1 : Int32))) 0 7), (ps_st (ps_st M 5 ((M 0 7)).toNatClampNeg x1) 0 7 (((ps_st M 5 ((M 0 7)).toNatClampNeg x1) 0 7) + (1 : Int32)))))
def ok_X6_type (x1 : Int32) (M : ps_M) : Prop := ((M 0 7) = (60 : Int32) → True) ∧ (¬ ((M 0 7) = (60 : Int32)) → ((vp_in (M 0 7) 60) ∧ True))
set_option maxRecDepth 100000 in
set_option maxHeartbeats 4000000 in
theorem bw_X6_type {E : ps_E} {X : ps_X (Int32 × ps_M)} (C : ps_C (pm_Y E) X cX6_type RX6 (some .int) 0 0 2) (RT : ps_RI (pm_Y E) X cX6_type .int) (x1 : Int32) (M : ps_M) (hk : ok_X6_type x1 M) : ps_G (pm_Y E) X (fv_X6_type x1 M) 0 [(0, .ref (ps_ad E 0)), (1, .int x1)] [] M := by
  unfold fv_X6_type
  unfold ok_X6_type at hk
  refine gw_aload_n C 1 dX6_type_0 0 rfl rfl ?_
  refine gf_X6_98 C 4 dX6_type_1 rfl ?_
  refine gw_bipush C 6 dX6_type_4 (v := 60) (by decide) rfl ?_
  refine gw_ic_ne C 12 9 dX6_type_6 (by decide) rfl (fun c6 => ?_) (fun c6 => ?_)
  · refine gw_bipush C 11 dX6_type_9 (v := (-3)) (by decide) rfl ?_
    exact RT _ _ _ _ dX6_type_11 rfl
  · refine gw_aload_n C 13 dX6_type_12 0 rfl rfl ?_
    refine gf_X6_22 C 16 dX6_type_13 rfl ?_
    refine gw_aload_n C 17 dX6_type_16 0 rfl rfl ?_
    refine gf_X6_98 C 20 dX6_type_17 rfl ?_
    refine gw_iload_n C 21 dX6_type_20 1 rfl rfl ?_
    refine gm_sv C 22 dX6_type_21 rfl (by decide) (hk.2 c6).1 ?_
    refine gw_aload_n C 23 dX6_type_22 0 rfl rfl ?_
    refine gw_dup C 24 dX6_type_23 rfl rfl ?_
    refine gf_X6_98 C 27 dX6_type_24 rfl ?_
    refine gw_iconst C 28 dX6_type_27 (v := 1) (by decide) rfl ?_
    refine gw_iadd C 29 dX6_type_28 rfl ?_
    refine pf_X6_98 C 32 dX6_type_29 rfl ?_
    refine gw_aload_n C 33 dX6_type_32 0 rfl rfl ?_
    refine gf_X6_98 C 36 dX6_type_33 rfl ?_
    exact RT _ _ _ _ dX6_type_36 rfl
theorem ct_X6_type {E : ps_E} {l : Launch} (x1 : Int32)  (M : ps_M) (hk : ok_X6_type x1 M) : ps_CI (pm_Y E) l yX6_type cX6_type 2 (some .int) 0 0 [.ref (ps_ad E 0), .int x1] M (fv_X6_type x1 M) := ps_metI RX6 (by decide) rfl (Nat.le_of_ble_eq_true rfl) rfl (fun X _ C RT => bw_X6_type C RT x1 M hk)
def fv_X6_clearText  (M : ps_M) : Int32 × ps_M := ((M 0 7), (ps_st M 0 7 (0 : Int32)))
def ok_X6_clearText  (M : ps_M) : Prop := True
set_option maxRecDepth 100000 in
set_option maxHeartbeats 4000000 in
theorem bw_X6_clearText {E : ps_E} {X : ps_X (Int32 × ps_M)} (C : ps_C (pm_Y E) X cX6_clearText RX6 (some .int) 0 0 2) (RT : ps_RI (pm_Y E) X cX6_clearText .int)  (M : ps_M) (hk : ok_X6_clearText  M) : ps_G (pm_Y E) X (fv_X6_clearText  M) 0 [(0, .ref (ps_ad E 0))] [] M := by
  unfold fv_X6_clearText
  unfold ok_X6_clearText at hk
  refine gw_aload_n C 1 dX6_clearText_0 0 rfl rfl ?_
  refine gf_X6_98 C 4 dX6_clearText_1 rfl ?_
  refine gw_istore_n C 5 dX6_clearText_4 rfl [(0, .ref (ps_ad E 0)), (1, .int (M 0 7))] [1, 0] (by decide) rfl ?_
  refine gw_aload_n C 6 dX6_clearText_5 0 rfl rfl ?_
  refine gw_iconst C 7 dX6_clearText_6 (v := 0) (by decide) rfl ?_
  refine pf_X6_98 C 10 dX6_clearText_7 rfl ?_
  refine gw_iload_n C 11 dX6_clearText_10 1 rfl rfl ?_
  exact RT _ _ _ _ dX6_clearText_11 rfl
theorem ct_X6_clearText {E : ps_E} {l : Launch}   (M : ps_M) (hk : ok_X6_clearText  M) : ps_CI (pm_Y E) l yX6_clearText cX6_clearText 2 (some .int) 0 0 [.ref (ps_ad E 0)] M (fv_X6_clearText  M) := ps_metI RX6 (by decide) rfl (Nat.le_of_ble_eq_true rfl) rfl (fun X _ C RT => bw_X6_clearText C RT M hk)
def fv_X6_signAt (x1 : Int32) (M : ps_M) : Int32 := if (M 0 7) ≤ x1 then ((-5 : Int32)) else ((M 5 (x1).toNatClampNeg))
def ok_X6_signAt (x1 : Int32) (M : ps_M) : Prop := ((M 0 7) ≤ x1 → True) ∧ (¬ ((M 0 7) ≤ x1) → ((vp_in x1 60) ∧ True))
set_option maxRecDepth 100000 in
set_option maxHeartbeats 4000000 in
theorem bw_X6_signAt {E : ps_E} {X : ps_X (Int32 × ps_M)} (C : ps_C (pm_Y E) X cX6_signAt RX6 (some .int) 0 0 2) (RT : ps_RI (pm_Y E) X cX6_signAt .int) (M : ps_M) (x1 : Int32) (hk : ok_X6_signAt x1 M) : ps_G (pm_Y E) X (fv_X6_signAt x1 M, M) 0 [(0, .ref (ps_ad E 0)), (1, .int x1)] [] M := by
  unfold fv_X6_signAt
  unfold ok_X6_signAt at hk
  refine gw_iload_n C 1 dX6_signAt_0 1 rfl rfl ?_
  refine gw_aload_n C 2 dX6_signAt_1 0 rfl rfl ?_
  refine gf_X6_98 C 5 dX6_signAt_2 rfl ?_
  refine gw_ic_geP C 17 8 dX6_signAt_5 (by decide) rfl (fun c5 => ?_) (fun c5 => ?_)
  · refine gw_bipush C 19 dX6_signAt_17 (v := (-5)) (by decide) rfl ?_
    exact RT _ _ _ _ dX6_signAt_19 rfl
  · refine gw_aload_n C 9 dX6_signAt_8 0 rfl rfl ?_
    refine gf_X6_22 C 12 dX6_signAt_9 rfl ?_
    refine gw_iload_n C 13 dX6_signAt_12 1 rfl rfl ?_
    refine gm_ld C 14 dX6_signAt_13 rfl (by decide) (hk.2 c5).1 ?_
    refine gw_goto C 19 dX6_signAt_14 (by decide) ?_
    exact RT _ _ _ _ dX6_signAt_19 rfl
theorem ct_X6_signAt {E : ps_E} {l : Launch} (x1 : Int32)  (M : ps_M) (hk : ok_X6_signAt x1 M) : ps_CI (pm_Y E) l yX6_signAt cX6_signAt 2 (some .int) 0 0 [.ref (ps_ad E 0), .int x1] M (fv_X6_signAt x1 M, M) := ps_metI RX6 (by decide) rfl (Nat.le_of_ble_eq_true rfl) rfl (fun X _ C RT => bw_X6_signAt C RT M x1 hk)
def fv_X6_faultOf_143 (rec9 : Int32 → Int32 → ps_M → Int32 × ps_M) (x1 : Int32) (x2 : Int32) (M : ps_M) : Int32 × ps_M := if x2 = 0 then (rec9 (x1 + (0 : Int32)) x2 M) else (rec9 (x1 + (1 : Int32)) x2 M)
def ok_X6_faultOf_143 (rec9 : Int32 → Int32 → ps_M → Int32 × ps_M) (okr9 : Int32 → Int32 → ps_M → Prop) (x1 : Int32) (x2 : Int32) (M : ps_M) : Prop := (x2 = 0 → (okr9 (x1 + (0 : Int32)) x2 M)) ∧ (¬ (x2 = 0) → (okr9 (x1 + (1 : Int32)) x2 M))
set_option maxRecDepth 100000 in
set_option maxHeartbeats 4000000 in
theorem bw_X6_faultOf_143 {E : ps_E} {X : ps_X (Int32 × ps_M)} (C : ps_C (pm_Y E) X cX6_faultOf RX6 (some .int) 1 22 5) (RT : ps_RI (pm_Y E) X cX6_faultOf .int) (rec9 : Int32 → Int32 → ps_M → Int32 × ps_M) (okr9 : Int32 → Int32 → ps_M → Prop) (hr9 : ∀ (x1 : Int32) (x2 : Int32)  (M : ps_M), okr9 x1 x2 M → ps_G (pm_Y E) X (rec9 x1 x2 M) 9 [(0, .ref (ps_ad E 0)), (1, .int x1), (2, .int x2)] [] M) (x1 : Int32) (x2 : Int32) (M : ps_M) (hk : ok_X6_faultOf_143 rec9 okr9 x1 x2 M) : ps_G (pm_Y E) X (fv_X6_faultOf_143 rec9 x1 x2 M) 143 [(0, .ref (ps_ad E 0)), (1, .int x1), (2, .int x2)] [] M := by
  unfold fv_X6_faultOf_143
  unfold ok_X6_faultOf_143 at hk
  refine gw_iload_n C 144 dX6_faultOf_143 1 rfl rfl ?_
  refine gw_iload_n C 145 dX6_faultOf_144 2 rfl rfl ?_
  refine gw_if_eq C 152 148 dX6_faultOf_145 (by decide) rfl (fun c145 => ?_) (fun c145 => ?_)
  · refine gw_iconst C 153 dX6_faultOf_152 (v := 0) (by decide) rfl ?_
    refine gw_iadd C 154 dX6_faultOf_153 rfl ?_
    refine gw_istore_n C 155 dX6_faultOf_154 rfl [(0, .ref (ps_ad E 0)), (1, .int (x1 + (0 : Int32))), (2, .int x2)] [1, 0, 2] (by decide) rfl ?_
    refine gw_goto C 9 dX6_faultOf_155 (by decide) ?_
    exact hr9 (x1 + (0 : Int32)) x2 M (hk.1 c145)
  · refine gw_iconst C 149 dX6_faultOf_148 (v := 1) (by decide) rfl ?_
    refine gw_goto C 153 dX6_faultOf_149 (by decide) ?_
    refine gw_iadd C 154 dX6_faultOf_153 rfl ?_
    refine gw_istore_n C 155 dX6_faultOf_154 rfl [(0, .ref (ps_ad E 0)), (1, .int (x1 + (1 : Int32))), (2, .int x2)] [1, 0, 2] (by decide) rfl ?_
    refine gw_goto C 9 dX6_faultOf_155 (by decide) ?_
    exact hr9 (x1 + (1 : Int32)) x2 M (hk.2 c145)
def fv_X6_faultOf_126 (rec9 : Int32 → Int32 → ps_M → Int32 × ps_M) (x1 : Int32) (s0 : Int32) (M : ps_M) : Int32 × ps_M := if s0 = 0 then (fv_X6_faultOf_143 rec9 x1 s0 M) else (if (fv_X6_signAt x1 M) = (44 : Int32) then (fv_X6_faultOf_143 rec9 x1 s0 M) else ((x1, M)))
def ok_X6_faultOf_126 (rec9 : Int32 → Int32 → ps_M → Int32 × ps_M) (okr9 : Int32 → Int32 → ps_M → Prop) (x1 : Int32) (s0 : Int32) (M : ps_M) : Prop := (s0 = 0 → (ok_X6_faultOf_143 rec9 okr9 x1 s0 M)) ∧ (¬ (s0 = 0) → ((ok_X6_signAt x1 M) ∧ (((fv_X6_signAt x1 M) = (44 : Int32) → (ok_X6_faultOf_143 rec9 okr9 x1 s0 M)) ∧ (¬ ((fv_X6_signAt x1 M) = (44 : Int32)) → True))))
set_option maxRecDepth 100000 in
set_option maxHeartbeats 4000000 in
theorem bw_X6_faultOf_126 {E : ps_E} {X : ps_X (Int32 × ps_M)} (C : ps_C (pm_Y E) X cX6_faultOf RX6 (some .int) 1 22 5) (RT : ps_RI (pm_Y E) X cX6_faultOf .int) (rec9 : Int32 → Int32 → ps_M → Int32 × ps_M) (okr9 : Int32 → Int32 → ps_M → Prop) (hr9 : ∀ (x1 : Int32) (x2 : Int32)  (M : ps_M), okr9 x1 x2 M → ps_G (pm_Y E) X (rec9 x1 x2 M) 9 [(0, .ref (ps_ad E 0)), (1, .int x1), (2, .int x2)] [] M) (x1 : Int32) (s0 : Int32) (M : ps_M) (hk : ok_X6_faultOf_126 rec9 okr9 x1 s0 M) : ps_G (pm_Y E) X (fv_X6_faultOf_126 rec9 x1 s0 M) 126 [(0, .ref (ps_ad E 0)), (1, .int x1)] [.int s0] M := by
  unfold fv_X6_faultOf_126
  unfold ok_X6_faultOf_126 at hk
  refine gw_istore_n C 127 dX6_faultOf_126 rfl [(0, .ref (ps_ad E 0)), (1, .int x1), (2, .int s0)] [1, 2, 0] (by decide) rfl ?_
  refine gw_iload_n C 128 dX6_faultOf_127 2 rfl rfl ?_
  refine gw_if_eq C 143 131 dX6_faultOf_128 (by decide) rfl (fun c128 => ?_) (fun c128 => ?_)
  · exact bw_X6_faultOf_143 C RT _ _ hr9 x1 s0 M (hk.1 c128)
  · refine gw_aload_n C 132 dX6_faultOf_131 0 rfl rfl ?_
    refine gw_iload_n C 133 dX6_faultOf_132 1 rfl rfl ?_
    refine gw_cVp C 136 dX6_faultOf_133 rfl yv_X6_signAt lk_X6_104 [.int x1] [] rfl (ct_X6_signAt (E := E) (l := ps_l X) x1 M (hk.2 c128).1) pm_recv rfl (Nat.le_of_ble_eq_true rfl) (Nat.le_of_ble_eq_true rfl) (Nat.le_of_ble_eq_true rfl) ?_
    refine gw_bipush C 138 dX6_faultOf_136 (v := 44) (by decide) rfl ?_
    refine gw_ic_eq C 143 141 dX6_faultOf_138 (by decide) rfl (fun c138 => ?_) (fun c138 => ?_)
    · exact bw_X6_faultOf_143 C RT _ _ hr9 x1 s0 M ((hk.2 c128).2.1 c138)
    · refine gw_iload_n C 142 dX6_faultOf_141 1 rfl rfl ?_
      exact RT _ _ _ _ dX6_faultOf_142 rfl
def fv_X6_faultOf_93 (rec9 : Int32 → Int32 → ps_M → Int32 × ps_M) (x1 : Int32) (x3 : Int32) (M : ps_M) : Int32 × ps_M := if ((ps_st (ps_st M 6 ((M 0 9)).toNatClampNeg x3) 0 9 (((ps_st M 6 ((M 0 9)).toNatClampNeg x3) 0 9) + (1 : Int32))) 0 7) ≤ x1 then (fv_X6_faultOf_126 rec9 x1 (0 : Int32) (ps_st (ps_st M 6 ((M 0 9)).toNatClampNeg x3) 0 9 (((ps_st M 6 ((M 0 9)).toNatClampNeg x3) 0 9) + (1 : Int32)))) else (fv_X6_faultOf_126 rec9 x1 (1 : Int32) (ps_st (ps_st M 6 ((M 0 9)).toNatClampNeg x3) 0 9 (((ps_st M 6 ((M 0 9)).toNatClampNeg x3) 0 9) + (1 : Int32))))
def ok_X6_faultOf_93 (rec9 : Int32 → Int32 → ps_M → Int32 × ps_M) (okr9 : Int32 → Int32 → ps_M → Prop) (x1 : Int32) (x3 : Int32) (M : ps_M) : Prop := (vp_in (M 0 9) 60) ∧ ((((ps_st (ps_st M 6 ((M 0 9)).toNatClampNeg x3) 0 9 (((ps_st M 6 ((M 0 9)).toNatClampNeg x3) 0 9) + (1 : Int32))) 0 7) ≤ x1 → (ok_X6_faultOf_126 rec9 okr9 x1 (0 : Int32) (ps_st (ps_st M 6 ((M 0 9)).toNatClampNeg x3) 0 9 (((ps_st M 6 ((M 0 9)).toNatClampNeg x3) 0 9) + (1 : Int32))))) ∧ (¬ (((ps_st (ps_st M 6 ((M 0 9)).toNatClampNeg x3) 0 9 (((ps_st M 6 ((M 0 9)).toNatClampNeg x3) 0 9) + (1 : Int32))) 0 7) ≤ x1) → (ok_X6_faultOf_126 rec9 okr9 x1 (1 : Int32) (ps_st (ps_st M 6 ((M 0 9)).toNatClampNeg x3) 0 9 (((ps_st M 6 ((M 0 9)).toNatClampNeg x3) 0 9) + (1 : Int32))))))
set_option maxRecDepth 100000 in
set_option maxHeartbeats 4000000 in
theorem bw_X6_faultOf_93 {E : ps_E} {X : ps_X (Int32 × ps_M)} (C : ps_C (pm_Y E) X cX6_faultOf RX6 (some .int) 1 22 5) (RT : ps_RI (pm_Y E) X cX6_faultOf .int) (rec9 : Int32 → Int32 → ps_M → Int32 × ps_M) (okr9 : Int32 → Int32 → ps_M → Prop) (hr9 : ∀ (x1 : Int32) (x2 : Int32)  (M : ps_M), okr9 x1 x2 M → ps_G (pm_Y E) X (rec9 x1 x2 M) 9 [(0, .ref (ps_ad E 0)), (1, .int x1), (2, .int x2)] [] M) (x1 : Int32) (x3 : Int32) (M : ps_M) (hk : ok_X6_faultOf_93 rec9 okr9 x1 x3 M) : ps_G (pm_Y E) X (fv_X6_faultOf_93 rec9 x1 x3 M) 93 [(0, .ref (ps_ad E 0)), (1, .int x1), (3, .int x3)] [] M := by
  unfold fv_X6_faultOf_93
  unfold ok_X6_faultOf_93 at hk
  refine gw_aload_n C 94 dX6_faultOf_93 0 rfl rfl ?_
  refine gf_X6_25 C 97 dX6_faultOf_94 rfl ?_
  refine gw_aload_n C 98 dX6_faultOf_97 0 rfl rfl ?_
  refine gf_X6_101 C 101 dX6_faultOf_98 rfl ?_
  refine gw_iload_n C 102 dX6_faultOf_101 2 rfl rfl ?_
  refine gm_sv C 103 dX6_faultOf_102 rfl (by decide) hk.1 ?_
  refine gw_aload_n C 104 dX6_faultOf_103 0 rfl rfl ?_
  refine gw_dup C 105 dX6_faultOf_104 rfl rfl ?_
  refine gf_X6_101 C 108 dX6_faultOf_105 rfl ?_
  refine gw_iconst C 109 dX6_faultOf_108 (v := 1) (by decide) rfl ?_
  refine gw_iadd C 110 dX6_faultOf_109 rfl ?_
  refine pf_X6_101 C 113 dX6_faultOf_110 rfl ?_
  refine gw_iload_n C 114 dX6_faultOf_113 1 rfl rfl ?_
  refine gw_aload_n C 115 dX6_faultOf_114 0 rfl rfl ?_
  refine gf_X6_98 C 118 dX6_faultOf_115 rfl ?_
  refine gw_ic_ge C 125 121 dX6_faultOf_118 (by decide) rfl (fun c118 => ?_) (fun c118 => ?_)
  · refine gw_iconst C 126 dX6_faultOf_125 (v := 0) (by decide) rfl ?_
    refine gw_sub C [(0, .ref (ps_ad E 0)), (1, .int x1)] [0, 1] rfl ?_
    exact bw_X6_faultOf_126 C RT _ _ hr9 x1 (0 : Int32) (ps_st (ps_st M 6 ((M 0 9)).toNatClampNeg x3) 0 9 (((ps_st M 6 ((M 0 9)).toNatClampNeg x3) 0 9) + (1 : Int32))) (hk.2.1 c118)
  · refine gw_iconst C 122 dX6_faultOf_121 (v := 1) (by decide) rfl ?_
    refine gw_goto C 126 dX6_faultOf_122 (by decide) ?_
    refine gw_sub C [(0, .ref (ps_ad E 0)), (1, .int x1)] [0, 1] rfl ?_
    exact bw_X6_faultOf_126 C RT _ _ hr9 x1 (1 : Int32) (ps_st (ps_st M 6 ((M 0 9)).toNatClampNeg x3) 0 9 (((ps_st M 6 ((M 0 9)).toNatClampNeg x3) 0 9) + (1 : Int32))) (hk.2.2 c118)
def fv_X6_faultOf_45 (rec9 : Int32 → Int32 → ps_M → Int32 × ps_M) : Nat → Int32 → Int32 → Int32 → ps_M → Int32 × ps_M
  | 0, _, _, _, M => (0, M)
  | n + 1, x1, x3, x4, M => if (2 : Int32) ≤ x4 then (fv_X6_faultOf_93 rec9 x1 x3 M) else (if x3 ≤ 0 then (fv_X6_faultOf_93 rec9 x1 x3 M) else (if (fv_X6_in (fv_X6_signAt x1 M) (48 : Int32) (57 : Int32) M) = 0 then (fv_X6_faultOf_93 rec9 x1 x3 M) else (fv_X6_faultOf_45 rec9 n (x1 + (1 : Int32)) ((((10 : Int32) * x3) + (fv_X6_signAt x1 M)) - (48 : Int32)) (x4 + (1 : Int32)) M)))
theorem fv_X6_faultOf_45_s (rec9 : Int32 → Int32 → ps_M → Int32 × ps_M) (n : Nat) (x1 : Int32) (x3 : Int32) (x4 : Int32) (M : ps_M) : fv_X6_faultOf_45 rec9 (n + 1) x1 x3 x4 M = (if (2 : Int32) ≤ x4 then (fv_X6_faultOf_93 rec9 x1 x3 M) else (if x3 ≤ 0 then (fv_X6_faultOf_93 rec9 x1 x3 M) else (if (fv_X6_in (fv_X6_signAt x1 M) (48 : Int32) (57 : Int32) M) = 0 then (fv_X6_faultOf_93 rec9 x1 x3 M) else (fv_X6_faultOf_45 rec9 n (x1 + (1 : Int32)) ((((10 : Int32) * x3) + (fv_X6_signAt x1 M)) - (48 : Int32)) (x4 + (1 : Int32)) M)))) := rfl
def ok_X6_faultOf_45 (rec9 : Int32 → Int32 → ps_M → Int32 × ps_M) (okr9 : Int32 → Int32 → ps_M → Prop) : Nat → Int32 → Int32 → Int32 → ps_M → Prop
  | 0, _, _, _, _ => False
  | n + 1, x1, x3, x4, M => ((2 : Int32) ≤ x4 → (ok_X6_faultOf_93 rec9 okr9 x1 x3 M)) ∧ (¬ ((2 : Int32) ≤ x4) → ((x3 ≤ 0 → (ok_X6_faultOf_93 rec9 okr9 x1 x3 M)) ∧ (¬ (x3 ≤ 0) → ((ok_X6_signAt x1 M) ∧ ((ok_X6_in (fv_X6_signAt x1 M) (48 : Int32) (57 : Int32) M) ∧ (((fv_X6_in (fv_X6_signAt x1 M) (48 : Int32) (57 : Int32) M) = 0 → (ok_X6_faultOf_93 rec9 okr9 x1 x3 M)) ∧ (¬ ((fv_X6_in (fv_X6_signAt x1 M) (48 : Int32) (57 : Int32) M) = 0) → ((ok_X6_signAt x1 M) ∧ (ok_X6_faultOf_45 rec9 okr9 n (x1 + (1 : Int32)) ((((10 : Int32) * x3) + (fv_X6_signAt x1 M)) - (48 : Int32)) (x4 + (1 : Int32)) M)))))))))
theorem ok_X6_faultOf_45_s (rec9 : Int32 → Int32 → ps_M → Int32 × ps_M) (okr9 : Int32 → Int32 → ps_M → Prop) (n : Nat) (x1 : Int32) (x3 : Int32) (x4 : Int32) (M : ps_M) : ok_X6_faultOf_45 rec9 okr9 (n + 1) x1 x3 x4 M = (((2 : Int32) ≤ x4 → (ok_X6_faultOf_93 rec9 okr9 x1 x3 M)) ∧ (¬ ((2 : Int32) ≤ x4) → ((x3 ≤ 0 → (ok_X6_faultOf_93 rec9 okr9 x1 x3 M)) ∧ (¬ (x3 ≤ 0) → ((ok_X6_signAt x1 M) ∧ ((ok_X6_in (fv_X6_signAt x1 M) (48 : Int32) (57 : Int32) M) ∧ (((fv_X6_in (fv_X6_signAt x1 M) (48 : Int32) (57 : Int32) M) = 0 → (ok_X6_faultOf_93 rec9 okr9 x1 x3 M)) ∧ (¬ ((fv_X6_in (fv_X6_signAt x1 M) (48 : Int32) (57 : Int32) M) = 0) → ((ok_X6_signAt x1 M) ∧ (ok_X6_faultOf_45 rec9 okr9 n (x1 + (1 : Int32)) ((((10 : Int32) * x3) + (fv_X6_signAt x1 M)) - (48 : Int32)) (x4 + (1 : Int32)) M)))))))))) := rfl
set_option maxRecDepth 100000 in
set_option maxHeartbeats 4000000 in
theorem bw_X6_faultOf_45 {E : ps_E} {X : ps_X (Int32 × ps_M)} (C : ps_C (pm_Y E) X cX6_faultOf RX6 (some .int) 1 22 5) (RT : ps_RI (pm_Y E) X cX6_faultOf .int) (rec9 : Int32 → Int32 → ps_M → Int32 × ps_M) (okr9 : Int32 → Int32 → ps_M → Prop) (hr9 : ∀ (x1 : Int32) (x2 : Int32)  (M : ps_M), okr9 x1 x2 M → ps_G (pm_Y E) X (rec9 x1 x2 M) 9 [(0, .ref (ps_ad E 0)), (1, .int x1), (2, .int x2)] [] M) : ∀ (n : Nat) (x1 : Int32) (x3 : Int32) (x4 : Int32) (M : ps_M), ok_X6_faultOf_45 rec9 okr9 n x1 x3 x4 M → ps_G (pm_Y E) X (fv_X6_faultOf_45 rec9 n x1 x3 x4 M) 45 [(0, .ref (ps_ad E 0)), (1, .int x1), (3, .int x3), (4, .int x4)] [] M := by
  intro n
  induction n with
  | zero => intro x1 x3 x4 M h; exact h.elim
  | succ n ih =>
    intro x1 x3 x4 M hk
    rw [fv_X6_faultOf_45_s]
    rw [ok_X6_faultOf_45_s] at hk
    refine gw_iload C 47 dX6_faultOf_45 3 rfl rfl ?_
    refine gw_iconst C 48 dX6_faultOf_47 (v := 2) (by decide) rfl ?_
    refine gw_ic_ge C 93 51 dX6_faultOf_48 (by decide) rfl (fun c48 => ?_) (fun c48 => ?_)
    · refine gw_sub C [(0, .ref (ps_ad E 0)), (1, .int x1), (3, .int x3)] [0, 1, 2] rfl ?_
      exact bw_X6_faultOf_93 C RT _ _ hr9 x1 x3 M (hk.1 c48)
    · refine gw_iload_n C 52 dX6_faultOf_51 2 rfl rfl ?_
      refine gw_if_le C 93 55 dX6_faultOf_52 (by decide) rfl (fun c52 => ?_) (fun c52 => ?_)
      · refine gw_sub C [(0, .ref (ps_ad E 0)), (1, .int x1), (3, .int x3)] [0, 1, 2] rfl ?_
        exact bw_X6_faultOf_93 C RT _ _ hr9 x1 x3 M ((hk.2 c48).1 c52)
      · refine gw_aload_n C 56 dX6_faultOf_55 0 rfl rfl ?_
        refine gw_iload_n C 57 dX6_faultOf_56 1 rfl rfl ?_
        refine gw_cVp C 60 dX6_faultOf_57 rfl yv_X6_signAt lk_X6_104 [.int x1] [] rfl (ct_X6_signAt (E := E) (l := ps_l X) x1 M ((hk.2 c48).2 c52).1) pm_recv rfl (Nat.le_of_ble_eq_true rfl) (Nat.le_of_ble_eq_true rfl) (Nat.le_of_ble_eq_true rfl) ?_
        refine gw_bipush C 62 dX6_faultOf_60 (v := 48) (by decide) rfl ?_
        refine gw_bipush C 64 dX6_faultOf_62 (v := 57) (by decide) rfl ?_
        refine gw_cSp C 67 dX6_faultOf_64 rfl yv_X6_in lk_X6_36 [.int (fv_X6_signAt x1 M), .int (48 : Int32), .int (57 : Int32)] [] rfl (ct_X6_in (E := E) (l := ps_l X) (fv_X6_signAt x1 M) (48 : Int32) (57 : Int32) M ((hk.2 c48).2 c52).2.1) rfl (Nat.le_of_ble_eq_true rfl) (Nat.le_of_ble_eq_true rfl) (Nat.le_of_ble_eq_true rfl) ?_
        refine gw_if_eq C 93 70 dX6_faultOf_67 (by decide) rfl (fun c67 => ?_) (fun c67 => ?_)
        · refine gw_sub C [(0, .ref (ps_ad E 0)), (1, .int x1), (3, .int x3)] [0, 1, 2] rfl ?_
          exact bw_X6_faultOf_93 C RT _ _ hr9 x1 x3 M (((hk.2 c48).2 c52).2.2.1 c67)
        · refine gw_bipush C 72 dX6_faultOf_70 (v := 10) (by decide) rfl ?_
          refine gw_iload_n C 73 dX6_faultOf_72 2 rfl rfl ?_
          refine gw_imul C 74 dX6_faultOf_73 rfl ?_
          refine gw_aload_n C 75 dX6_faultOf_74 0 rfl rfl ?_
          refine gw_iload_n C 76 dX6_faultOf_75 1 rfl rfl ?_
          refine gw_cVp C 79 dX6_faultOf_76 rfl yv_X6_signAt lk_X6_104 [.int x1] [.int ((10 : Int32) * x3)] rfl (ct_X6_signAt (E := E) (l := ps_l X) x1 M (((hk.2 c48).2 c52).2.2.2 c67).1) pm_recv rfl (Nat.le_of_ble_eq_true rfl) (Nat.le_of_ble_eq_true rfl) (Nat.le_of_ble_eq_true rfl) ?_
          refine gw_iadd C 80 dX6_faultOf_79 rfl ?_
          refine gw_bipush C 82 dX6_faultOf_80 (v := 48) (by decide) rfl ?_
          refine gw_isub C 83 dX6_faultOf_82 rfl ?_
          refine gw_istore_n C 84 dX6_faultOf_83 rfl [(0, .ref (ps_ad E 0)), (1, .int x1), (3, .int ((((10 : Int32) * x3) + (fv_X6_signAt x1 M)) - (48 : Int32))), (4, .int x4)] [1, 2, 0, 3] (by decide) rfl ?_
          refine gw_iinc C 87 dX6_faultOf_84 rfl (y := 1) (by decide) rfl 1 rfl [(0, .ref (ps_ad E 0)), (1, .int (x1 + (1 : Int32))), (3, .int ((((10 : Int32) * x3) + (fv_X6_signAt x1 M)) - (48 : Int32))), (4, .int x4)] [1, 0, 2, 3] (by decide) rfl ?_
          refine gw_iinc C 90 dX6_faultOf_87 rfl (y := 1) (by decide) rfl 3 rfl [(0, .ref (ps_ad E 0)), (1, .int (x1 + (1 : Int32))), (3, .int ((((10 : Int32) * x3) + (fv_X6_signAt x1 M)) - (48 : Int32))), (4, .int (x4 + (1 : Int32)))] [1, 2, 3, 0] (by decide) rfl ?_
          refine gw_goto C 45 dX6_faultOf_90 (by decide) ?_
          exact ih (x1 + (1 : Int32)) ((((10 : Int32) * x3) + (fv_X6_signAt x1 M)) - (48 : Int32)) (x4 + (1 : Int32)) M (((hk.2 c48).2 c52).2.2.2 c67).2
def fv_X6_faultOf_9 : Nat → Int32 → Int32 → ps_M → Int32 × ps_M
  | 0, _, _, M => (0, M)
  | n + 1, x1, x2, M => if x2 = 0 then (((-5 : Int32), M)) else (if (fv_X6_in (fv_X6_signAt x1 M) (48 : Int32) (57 : Int32) M) = 0 then ((x1, M)) else (fv_X6_faultOf_45 (fun a1 a2 M => fv_X6_faultOf_9 n a1 a2 M) ps_FU (x1 + (1 : Int32)) ((fv_X6_signAt x1 M) - (48 : Int32)) (0 : Int32) M))
theorem fv_X6_faultOf_9_s (n : Nat) (x1 : Int32) (x2 : Int32) (M : ps_M) : fv_X6_faultOf_9 (n + 1) x1 x2 M = (if x2 = 0 then (((-5 : Int32), M)) else (if (fv_X6_in (fv_X6_signAt x1 M) (48 : Int32) (57 : Int32) M) = 0 then ((x1, M)) else (fv_X6_faultOf_45 (fun a1 a2 M => fv_X6_faultOf_9 n a1 a2 M) ps_FU (x1 + (1 : Int32)) ((fv_X6_signAt x1 M) - (48 : Int32)) (0 : Int32) M))) := rfl
def ok_X6_faultOf_9 : Nat → Int32 → Int32 → ps_M → Prop
  | 0, _, _, _ => False
  | n + 1, x1, x2, M => (x2 = 0 → True) ∧ (¬ (x2 = 0) → ((ok_X6_signAt x1 M) ∧ ((ok_X6_in (fv_X6_signAt x1 M) (48 : Int32) (57 : Int32) M) ∧ (((fv_X6_in (fv_X6_signAt x1 M) (48 : Int32) (57 : Int32) M) = 0 → True) ∧ (¬ ((fv_X6_in (fv_X6_signAt x1 M) (48 : Int32) (57 : Int32) M) = 0) → ((ok_X6_signAt x1 M) ∧ (ok_X6_faultOf_45 (fun a1 a2 M => fv_X6_faultOf_9 n a1 a2 M) (fun a1 a2 M => ok_X6_faultOf_9 n a1 a2 M) ps_FU (x1 + (1 : Int32)) ((fv_X6_signAt x1 M) - (48 : Int32)) (0 : Int32) M)))))))
theorem ok_X6_faultOf_9_s (n : Nat) (x1 : Int32) (x2 : Int32) (M : ps_M) : ok_X6_faultOf_9 (n + 1) x1 x2 M = ((x2 = 0 → True) ∧ (¬ (x2 = 0) → ((ok_X6_signAt x1 M) ∧ ((ok_X6_in (fv_X6_signAt x1 M) (48 : Int32) (57 : Int32) M) ∧ (((fv_X6_in (fv_X6_signAt x1 M) (48 : Int32) (57 : Int32) M) = 0 → True) ∧ (¬ ((fv_X6_in (fv_X6_signAt x1 M) (48 : Int32) (57 : Int32) M) = 0) → ((ok_X6_signAt x1 M) ∧ (ok_X6_faultOf_45 (fun a1 a2 M => fv_X6_faultOf_9 n a1 a2 M) (fun a1 a2 M => ok_X6_faultOf_9 n a1 a2 M) ps_FU (x1 + (1 : Int32)) ((fv_X6_signAt x1 M) - (48 : Int32)) (0 : Int32) M)))))))) := rfl
set_option maxRecDepth 100000 in
set_option maxHeartbeats 4000000 in
theorem bw_X6_faultOf_9 {E : ps_E} {X : ps_X (Int32 × ps_M)} (C : ps_C (pm_Y E) X cX6_faultOf RX6 (some .int) 1 22 5) (RT : ps_RI (pm_Y E) X cX6_faultOf .int) : ∀ (n : Nat) (x1 : Int32) (x2 : Int32) (M : ps_M), ok_X6_faultOf_9 n x1 x2 M → ps_G (pm_Y E) X (fv_X6_faultOf_9 n x1 x2 M) 9 [(0, .ref (ps_ad E 0)), (1, .int x1), (2, .int x2)] [] M := by
  intro n
  induction n with
  | zero => intro x1 x2 M h; exact h.elim
  | succ n ih =>
    intro x1 x2 M hk
    rw [fv_X6_faultOf_9_s]
    rw [ok_X6_faultOf_9_s] at hk
    refine gw_iload_n C 10 dX6_faultOf_9 2 rfl rfl ?_
    refine gw_if_eq C 158 13 dX6_faultOf_10 (by decide) rfl (fun c10 => ?_) (fun c10 => ?_)
    · refine gw_bipush C 160 dX6_faultOf_158 (v := (-5)) (by decide) rfl ?_
      exact RT _ _ _ _ dX6_faultOf_160 rfl
    · refine gw_aload_n C 14 dX6_faultOf_13 0 rfl rfl ?_
      refine gw_iload_n C 15 dX6_faultOf_14 1 rfl rfl ?_
      refine gw_cVp C 18 dX6_faultOf_15 rfl yv_X6_signAt lk_X6_104 [.int x1] [] rfl (ct_X6_signAt (E := E) (l := ps_l X) x1 M (hk.2 c10).1) pm_recv rfl (Nat.le_of_ble_eq_true rfl) (Nat.le_of_ble_eq_true rfl) (Nat.le_of_ble_eq_true rfl) ?_
      refine gw_bipush C 20 dX6_faultOf_18 (v := 48) (by decide) rfl ?_
      refine gw_bipush C 22 dX6_faultOf_20 (v := 57) (by decide) rfl ?_
      refine gw_cSp C 25 dX6_faultOf_22 rfl yv_X6_in lk_X6_36 [.int (fv_X6_signAt x1 M), .int (48 : Int32), .int (57 : Int32)] [] rfl (ct_X6_in (E := E) (l := ps_l X) (fv_X6_signAt x1 M) (48 : Int32) (57 : Int32) M (hk.2 c10).2.1) rfl (Nat.le_of_ble_eq_true rfl) (Nat.le_of_ble_eq_true rfl) (Nat.le_of_ble_eq_true rfl) ?_
      refine gw_if_ne C 30 28 dX6_faultOf_25 (by decide) rfl (fun c25 => ?_) (fun c25 => ?_)
      · refine gw_iload_n C 29 dX6_faultOf_28 1 rfl rfl ?_
        exact RT _ _ _ _ dX6_faultOf_29 rfl
      · refine gw_aload_n C 31 dX6_faultOf_30 0 rfl rfl ?_
        refine gw_iload_n C 32 dX6_faultOf_31 1 rfl rfl ?_
        refine gw_cVp C 35 dX6_faultOf_32 rfl yv_X6_signAt lk_X6_104 [.int x1] [] rfl (ct_X6_signAt (E := E) (l := ps_l X) x1 M ((hk.2 c10).2.2.2 c25).1) pm_recv rfl (Nat.le_of_ble_eq_true rfl) (Nat.le_of_ble_eq_true rfl) (Nat.le_of_ble_eq_true rfl) ?_
        refine gw_bipush C 37 dX6_faultOf_35 (v := 48) (by decide) rfl ?_
        refine gw_isub C 38 dX6_faultOf_37 rfl ?_
        refine gw_istore_n C 39 dX6_faultOf_38 rfl [(0, .ref (ps_ad E 0)), (1, .int x1), (2, .int x2), (3, .int ((fv_X6_signAt x1 M) - (48 : Int32)))] [1, 2, 3, 0] (by decide) rfl ?_
        refine gw_iinc C 42 dX6_faultOf_39 rfl (y := 1) (by decide) rfl 1 rfl [(0, .ref (ps_ad E 0)), (1, .int (x1 + (1 : Int32))), (2, .int x2), (3, .int ((fv_X6_signAt x1 M) - (48 : Int32)))] [1, 0, 2, 3] (by decide) rfl ?_
        refine gw_iconst C 43 dX6_faultOf_42 (v := 0) (by decide) rfl ?_
        refine gw_istore C 45 dX6_faultOf_43 rfl [(0, .ref (ps_ad E 0)), (1, .int (x1 + (1 : Int32))), (2, .int x2), (3, .int ((fv_X6_signAt x1 M) - (48 : Int32))), (4, .int (0 : Int32))] [1, 2, 3, 4, 0] (by decide) rfl ?_
        refine gw_sub C [(0, .ref (ps_ad E 0)), (1, .int (x1 + (1 : Int32))), (3, .int ((fv_X6_signAt x1 M) - (48 : Int32))), (4, .int (0 : Int32))] [0, 1, 3, 4] rfl ?_
        exact bw_X6_faultOf_45 C RT _ _ (fun a1 a2  M h => ih a1 a2  M h) ps_FU (x1 + (1 : Int32)) ((fv_X6_signAt x1 M) - (48 : Int32)) (0 : Int32) M ((hk.2 c10).2.2.2 c25).2
def fv_X6_faultOf  (M : ps_M) : Int32 × ps_M := fv_X6_faultOf_9 ps_FU (0 : Int32) (1 : Int32) (ps_st M 0 9 (0 : Int32))
def ok_X6_faultOf  (M : ps_M) : Prop := ok_X6_faultOf_9 ps_FU (0 : Int32) (1 : Int32) (ps_st M 0 9 (0 : Int32))
set_option maxRecDepth 100000 in
set_option maxHeartbeats 4000000 in
theorem bw_X6_faultOf {E : ps_E} {X : ps_X (Int32 × ps_M)} (C : ps_C (pm_Y E) X cX6_faultOf RX6 (some .int) 1 22 5) (RT : ps_RI (pm_Y E) X cX6_faultOf .int)  (M : ps_M) (hk : ok_X6_faultOf  M) : ps_G (pm_Y E) X (fv_X6_faultOf  M) 0 [(0, .ref (ps_ad E 0))] [] M := by
  unfold fv_X6_faultOf
  unfold ok_X6_faultOf at hk
  refine gw_iconst C 1 dX6_faultOf_0 (v := 0) (by decide) rfl ?_
  refine gw_istore_n C 2 dX6_faultOf_1 rfl [(0, .ref (ps_ad E 0)), (1, .int (0 : Int32))] [1, 0] (by decide) rfl ?_
  refine gw_aload_n C 3 dX6_faultOf_2 0 rfl rfl ?_
  refine gw_iconst C 4 dX6_faultOf_3 (v := 0) (by decide) rfl ?_
  refine pf_X6_101 C 7 dX6_faultOf_4 rfl ?_
  refine gw_iconst C 8 dX6_faultOf_7 (v := 1) (by decide) rfl ?_
  refine gw_istore_n C 9 dX6_faultOf_8 rfl [(0, .ref (ps_ad E 0)), (1, .int (0 : Int32)), (2, .int (1 : Int32))] [1, 2, 0] (by decide) rfl ?_
  exact bw_X6_faultOf_9 C RT  ps_FU (0 : Int32) (1 : Int32) (ps_st M 0 9 (0 : Int32)) hk
theorem ct_X6_faultOf {E : ps_E} {l : Launch}   (M : ps_M) (hk : ok_X6_faultOf  M) : ps_CI (pm_Y E) l yX6_faultOf cX6_faultOf 5 (some .int) 1 22 [.ref (ps_ad E 0)] M (fv_X6_faultOf  M) := ps_metI RX6 (by decide) rfl (Nat.le_of_ble_eq_true rfl) rfl (fun X _ C RT => bw_X6_faultOf C RT M hk)
def fv_X6_readArrivals_99 : Nat → Int32 → Int32 → Int32 → ps_M → Int32 × ps_M
  | 0, _, _, _, M => (0, M)
  | n + 1, x1, x2, x4, M => if (M 0 9) ≤ x4 then (((M 0 9), M)) else (fv_X6_readArrivals_99 n x1 x2 (x4 + (1 : Int32)) (fv_X6_adds x1 (((12 : Int32) + x2) + x4) ((M 6 (x4).toNatClampNeg) - (fv_X6_of x1 (((12 : Int32) + x2) + x4) M)) M))
theorem fv_X6_readArrivals_99_s (n : Nat) (x1 : Int32) (x2 : Int32) (x4 : Int32) (M : ps_M) : fv_X6_readArrivals_99 (n + 1) x1 x2 x4 M = (if (M 0 9) ≤ x4 then (((M 0 9), M)) else (fv_X6_readArrivals_99 n x1 x2 (x4 + (1 : Int32)) (fv_X6_adds x1 (((12 : Int32) + x2) + x4) ((M 6 (x4).toNatClampNeg) - (fv_X6_of x1 (((12 : Int32) + x2) + x4) M)) M))) := rfl
def ok_X6_readArrivals_99 : Nat → Int32 → Int32 → Int32 → ps_M → Prop
  | 0, _, _, _, _ => False
  | n + 1, x1, x2, x4, M => ((M 0 9) ≤ x4 → True) ∧ (¬ ((M 0 9) ≤ x4) → ((vp_in x4 60) ∧ ((ok_X6_of x1 (((12 : Int32) + x2) + x4) M) ∧ ((ok_X6_adds x1 (((12 : Int32) + x2) + x4) ((M 6 (x4).toNatClampNeg) - (fv_X6_of x1 (((12 : Int32) + x2) + x4) M)) M) ∧ (ok_X6_readArrivals_99 n x1 x2 (x4 + (1 : Int32)) (fv_X6_adds x1 (((12 : Int32) + x2) + x4) ((M 6 (x4).toNatClampNeg) - (fv_X6_of x1 (((12 : Int32) + x2) + x4) M)) M))))))
theorem ok_X6_readArrivals_99_s (n : Nat) (x1 : Int32) (x2 : Int32) (x4 : Int32) (M : ps_M) : ok_X6_readArrivals_99 (n + 1) x1 x2 x4 M = (((M 0 9) ≤ x4 → True) ∧ (¬ ((M 0 9) ≤ x4) → ((vp_in x4 60) ∧ ((ok_X6_of x1 (((12 : Int32) + x2) + x4) M) ∧ ((ok_X6_adds x1 (((12 : Int32) + x2) + x4) ((M 6 (x4).toNatClampNeg) - (fv_X6_of x1 (((12 : Int32) + x2) + x4) M)) M) ∧ (ok_X6_readArrivals_99 n x1 x2 (x4 + (1 : Int32)) (fv_X6_adds x1 (((12 : Int32) + x2) + x4) ((M 6 (x4).toNatClampNeg) - (fv_X6_of x1 (((12 : Int32) + x2) + x4) M)) M))))))) := rfl
set_option maxRecDepth 100000 in
set_option maxHeartbeats 4000000 in
theorem bw_X6_readArrivals_99 {E : ps_E} {X : ps_X (Int32 × ps_M)} (C : ps_C (pm_Y E) X cX6_readArrivals RX6 (some .int) 2 46 5) (RT : ps_RI (pm_Y E) X cX6_readArrivals .int) : ∀ (n : Nat) (x1 : Int32) (x2 : Int32) (x4 : Int32) (M : ps_M), ok_X6_readArrivals_99 n x1 x2 x4 M → ps_G (pm_Y E) X (fv_X6_readArrivals_99 n x1 x2 x4 M) 99 [(0, .ref (ps_ad E 0)), (1, .int x1), (2, .int x2), (4, .int x4)] [] M := by
  intro n
  induction n with
  | zero => intro x1 x2 x4 M h; exact h.elim
  | succ n ih =>
    intro x1 x2 x4 M hk
    rw [fv_X6_readArrivals_99_s]
    rw [ok_X6_readArrivals_99_s] at hk
    refine gw_iload C 101 dX6_readArrivals_99 3 rfl rfl ?_
    refine gw_aload_n C 102 dX6_readArrivals_101 0 rfl rfl ?_
    refine gf_X6_101 C 105 dX6_readArrivals_102 rfl ?_
    refine gw_ic_ge C 146 108 dX6_readArrivals_105 (by decide) rfl (fun c105 => ?_) (fun c105 => ?_)
    · refine gw_aload_n C 147 dX6_readArrivals_146 0 rfl rfl ?_
      refine gf_X6_101 C 150 dX6_readArrivals_147 rfl ?_
      exact RT _ _ _ _ dX6_readArrivals_150 rfl
    · refine gw_aload_n C 109 dX6_readArrivals_108 0 rfl rfl ?_
      refine gw_iload_n C 110 dX6_readArrivals_109 1 rfl rfl ?_
      refine gw_bipush C 112 dX6_readArrivals_110 (v := 12) (by decide) rfl ?_
      refine gw_iload_n C 113 dX6_readArrivals_112 2 rfl rfl ?_
      refine gw_iadd C 114 dX6_readArrivals_113 rfl ?_
      refine gw_iload C 116 dX6_readArrivals_114 3 rfl rfl ?_
      refine gw_iadd C 117 dX6_readArrivals_116 rfl ?_
      refine gw_aload_n C 118 dX6_readArrivals_117 0 rfl rfl ?_
      refine gf_X6_25 C 121 dX6_readArrivals_118 rfl ?_
      refine gw_iload C 123 dX6_readArrivals_121 3 rfl rfl ?_
      refine gm_ld C 124 dX6_readArrivals_123 rfl (by decide) (hk.2 c105).1 ?_
      refine gw_aload_n C 125 dX6_readArrivals_124 0 rfl rfl ?_
      refine gw_iload_n C 126 dX6_readArrivals_125 1 rfl rfl ?_
      refine gw_bipush C 128 dX6_readArrivals_126 (v := 12) (by decide) rfl ?_
      refine gw_iload_n C 129 dX6_readArrivals_128 2 rfl rfl ?_
      refine gw_iadd C 130 dX6_readArrivals_129 rfl ?_
      refine gw_iload C 132 dX6_readArrivals_130 3 rfl rfl ?_
      refine gw_iadd C 133 dX6_readArrivals_132 rfl ?_
      refine gw_cVp C 136 dX6_readArrivals_133 rfl yv_X6_of lk_X6_54 [.int x1, .int (((12 : Int32) + x2) + x4)] [.int (M 6 (x4).toNatClampNeg), .int (((12 : Int32) + x2) + x4), .int x1, .ref (ps_ad E 0)] rfl (ct_X6_of (E := E) (l := ps_l X) x1 (((12 : Int32) + x2) + x4) M (hk.2 c105).2.1) pm_recv rfl (Nat.le_of_ble_eq_true rfl) (Nat.le_of_ble_eq_true rfl) (Nat.le_of_ble_eq_true rfl) ?_
      refine gw_isub C 137 dX6_readArrivals_136 rfl ?_
      refine gw_cVv C 140 dX6_readArrivals_137 rfl yv_X6_adds lk_X6_43 [.int x1, .int (((12 : Int32) + x2) + x4), .int ((M 6 (x4).toNatClampNeg) - (fv_X6_of x1 (((12 : Int32) + x2) + x4) M))] [] rfl (ct_X6_adds (E := E) (l := ps_l X) x1 (((12 : Int32) + x2) + x4) ((M 6 (x4).toNatClampNeg) - (fv_X6_of x1 (((12 : Int32) + x2) + x4) M)) M (hk.2 c105).2.2.1) pm_recv rfl (Nat.le_of_ble_eq_true rfl) (Nat.le_of_ble_eq_true rfl) (Nat.le_of_ble_eq_true rfl) ?_
      refine gw_iinc C 143 dX6_readArrivals_140 rfl (y := 1) (by decide) rfl 3 rfl [(0, .ref (ps_ad E 0)), (1, .int x1), (2, .int x2), (4, .int (x4 + (1 : Int32)))] [1, 2, 3, 0] (by decide) rfl ?_
      refine gw_goto C 99 dX6_readArrivals_143 (by decide) ?_
      exact ih x1 x2 (x4 + (1 : Int32)) (fv_X6_adds x1 (((12 : Int32) + x2) + x4) ((M 6 (x4).toNatClampNeg) - (fv_X6_of x1 (((12 : Int32) + x2) + x4) M)) M) (hk.2 c105).2.2.2
def fv_X6_readArrivals_47 : Nat → Int32 → Int32 → Int32 → ps_M → Int32 × ps_M
  | 0, _, _, _, M => (0, M)
  | n + 1, x1, x2, x4, M => if (M 0 9) ≤ x4 then (if (x2 + (M 0 9)) ≤ (15 : Int32) then (fv_X6_readArrivals_99 ps_FU x1 x2 (0 : Int32) (fv_X6_records M)) else (((-3 : Int32), M))) else (if (M 6 (x4).toNatClampNeg) ≤ (500 : Int32) then (fv_X6_readArrivals_47 n x1 x2 (x4 + (1 : Int32)) M) else (((-2 : Int32), M)))
theorem fv_X6_readArrivals_47_s (n : Nat) (x1 : Int32) (x2 : Int32) (x4 : Int32) (M : ps_M) : fv_X6_readArrivals_47 (n + 1) x1 x2 x4 M = (if (M 0 9) ≤ x4 then (if (x2 + (M 0 9)) ≤ (15 : Int32) then (fv_X6_readArrivals_99 ps_FU x1 x2 (0 : Int32) (fv_X6_records M)) else (((-3 : Int32), M))) else (if (M 6 (x4).toNatClampNeg) ≤ (500 : Int32) then (fv_X6_readArrivals_47 n x1 x2 (x4 + (1 : Int32)) M) else (((-2 : Int32), M)))) := rfl
def ok_X6_readArrivals_47 : Nat → Int32 → Int32 → Int32 → ps_M → Prop
  | 0, _, _, _, _ => False
  | n + 1, x1, x2, x4, M => ((M 0 9) ≤ x4 → (((x2 + (M 0 9)) ≤ (15 : Int32) → ((ok_X6_records M) ∧ (ok_X6_readArrivals_99 ps_FU x1 x2 (0 : Int32) (fv_X6_records M)))) ∧ (¬ ((x2 + (M 0 9)) ≤ (15 : Int32)) → True))) ∧ (¬ ((M 0 9) ≤ x4) → ((vp_in x4 60) ∧ (((M 6 (x4).toNatClampNeg) ≤ (500 : Int32) → (ok_X6_readArrivals_47 n x1 x2 (x4 + (1 : Int32)) M)) ∧ (¬ ((M 6 (x4).toNatClampNeg) ≤ (500 : Int32)) → True))))
theorem ok_X6_readArrivals_47_s (n : Nat) (x1 : Int32) (x2 : Int32) (x4 : Int32) (M : ps_M) : ok_X6_readArrivals_47 (n + 1) x1 x2 x4 M = (((M 0 9) ≤ x4 → (((x2 + (M 0 9)) ≤ (15 : Int32) → ((ok_X6_records M) ∧ (ok_X6_readArrivals_99 ps_FU x1 x2 (0 : Int32) (fv_X6_records M)))) ∧ (¬ ((x2 + (M 0 9)) ≤ (15 : Int32)) → True))) ∧ (¬ ((M 0 9) ≤ x4) → ((vp_in x4 60) ∧ (((M 6 (x4).toNatClampNeg) ≤ (500 : Int32) → (ok_X6_readArrivals_47 n x1 x2 (x4 + (1 : Int32)) M)) ∧ (¬ ((M 6 (x4).toNatClampNeg) ≤ (500 : Int32)) → True))))) := rfl
set_option maxRecDepth 100000 in
set_option maxHeartbeats 4000000 in
theorem bw_X6_readArrivals_47 {E : ps_E} {X : ps_X (Int32 × ps_M)} (C : ps_C (pm_Y E) X cX6_readArrivals RX6 (some .int) 2 46 5) (RT : ps_RI (pm_Y E) X cX6_readArrivals .int) : ∀ (n : Nat) (x1 : Int32) (x2 : Int32) (x4 : Int32) (M : ps_M), ok_X6_readArrivals_47 n x1 x2 x4 M → ps_G (pm_Y E) X (fv_X6_readArrivals_47 n x1 x2 x4 M) 47 [(0, .ref (ps_ad E 0)), (1, .int x1), (2, .int x2), (4, .int x4)] [] M := by
  intro n
  induction n with
  | zero => intro x1 x2 x4 M h; exact h.elim
  | succ n ih =>
    intro x1 x2 x4 M hk
    rw [fv_X6_readArrivals_47_s]
    rw [ok_X6_readArrivals_47_s] at hk
    refine gw_iload C 49 dX6_readArrivals_47 3 rfl rfl ?_
    refine gw_aload_n C 50 dX6_readArrivals_49 0 rfl rfl ?_
    refine gf_X6_101 C 53 dX6_readArrivals_50 rfl ?_
    refine gw_ic_ge C 78 56 dX6_readArrivals_53 (by decide) rfl (fun c53 => ?_) (fun c53 => ?_)
    · refine gw_iload_n C 79 dX6_readArrivals_78 2 rfl rfl ?_
      refine gw_aload_n C 80 dX6_readArrivals_79 0 rfl rfl ?_
      refine gf_X6_101 C 83 dX6_readArrivals_80 rfl ?_
      refine gw_iadd C 84 dX6_readArrivals_83 rfl ?_
      refine gw_bipush C 86 dX6_readArrivals_84 (v := 15) (by decide) rfl ?_
      refine gw_ic_le C 92 89 dX6_readArrivals_86 (by decide) rfl (fun c86 => ?_) (fun c86 => ?_)
      · refine gw_aload_n C 93 dX6_readArrivals_92 0 rfl rfl ?_
        refine gw_cVv C 96 dX6_readArrivals_93 rfl yv_X6_records lk_X6_40 [] [] rfl (ct_X6_records (E := E) (l := ps_l X) M ((hk.1 c53).1 c86).1) pm_recv rfl (Nat.le_of_ble_eq_true rfl) (Nat.le_of_ble_eq_true rfl) (Nat.le_of_ble_eq_true rfl) ?_
        refine gw_iconst C 97 dX6_readArrivals_96 (v := 0) (by decide) rfl ?_
        refine gw_istore C 99 dX6_readArrivals_97 rfl [(0, .ref (ps_ad E 0)), (1, .int x1), (2, .int x2), (4, .int (0 : Int32))] [1, 2, 3, 0] (by decide) rfl ?_
        exact bw_X6_readArrivals_99 C RT  ps_FU x1 x2 (0 : Int32) (fv_X6_records M) ((hk.1 c53).1 c86).2
      · refine gw_bipush C 91 dX6_readArrivals_89 (v := (-3)) (by decide) rfl ?_
        exact RT _ _ _ _ dX6_readArrivals_91 rfl
    · refine gw_aload_n C 57 dX6_readArrivals_56 0 rfl rfl ?_
      refine gf_X6_25 C 60 dX6_readArrivals_57 rfl ?_
      refine gw_iload C 62 dX6_readArrivals_60 3 rfl rfl ?_
      refine gm_ld C 63 dX6_readArrivals_62 rfl (by decide) (hk.2 c53).1 ?_
      refine gw_sipush C 66 dX6_readArrivals_63 (v := 500) (by decide) rfl ?_
      refine gw_ic_le C 72 69 dX6_readArrivals_66 (by decide) rfl (fun c66 => ?_) (fun c66 => ?_)
      · refine gw_iinc C 75 dX6_readArrivals_72 rfl (y := 1) (by decide) rfl 3 rfl [(0, .ref (ps_ad E 0)), (1, .int x1), (2, .int x2), (4, .int (x4 + (1 : Int32)))] [1, 2, 3, 0] (by decide) rfl ?_
        refine gw_goto C 47 dX6_readArrivals_75 (by decide) ?_
        exact ih x1 x2 (x4 + (1 : Int32)) M ((hk.2 c53).2.1 c66)
      · refine gw_bipush C 71 dX6_readArrivals_69 (v := (-2)) (by decide) rfl ?_
        exact RT _ _ _ _ dX6_readArrivals_71 rfl
def fv_X6_readArrivals (x1 : Int32) (x2 : Int32) (M : ps_M) : Int32 × ps_M := if (fv_X6_isStation x1 M) = 0 then (((-1 : Int32), M)) else (if (fv_X6_in x2 (M 1 ((0 : Int32)).toNatClampNeg) (14 : Int32) M) = 0 then (((-2 : Int32), M)) else (if (fv_X6_faultOf M).1 = (-5 : Int32) then (fv_X6_readArrivals_47 ps_FU x1 x2 (0 : Int32) ((fv_X6_faultOf M).2)) else ((((-100 : Int32) - (fv_X6_faultOf M).1), (fv_X6_faultOf M).2))))
def ok_X6_readArrivals (x1 : Int32) (x2 : Int32) (M : ps_M) : Prop := (ok_X6_isStation x1 M) ∧ (((fv_X6_isStation x1 M) = 0 → True) ∧ (¬ ((fv_X6_isStation x1 M) = 0) → ((vp_in (0 : Int32) 237) ∧ ((ok_X6_in x2 (M 1 ((0 : Int32)).toNatClampNeg) (14 : Int32) M) ∧ (((fv_X6_in x2 (M 1 ((0 : Int32)).toNatClampNeg) (14 : Int32) M) = 0 → True) ∧ (¬ ((fv_X6_in x2 (M 1 ((0 : Int32)).toNatClampNeg) (14 : Int32) M) = 0) → ((ok_X6_faultOf M) ∧ (((fv_X6_faultOf M).1 = (-5 : Int32) → (ok_X6_readArrivals_47 ps_FU x1 x2 (0 : Int32) ((fv_X6_faultOf M).2))) ∧ (¬ ((fv_X6_faultOf M).1 = (-5 : Int32)) → True)))))))))
set_option maxRecDepth 100000 in
set_option maxHeartbeats 4000000 in
theorem bw_X6_readArrivals {E : ps_E} {X : ps_X (Int32 × ps_M)} (C : ps_C (pm_Y E) X cX6_readArrivals RX6 (some .int) 2 46 5) (RT : ps_RI (pm_Y E) X cX6_readArrivals .int) (x1 : Int32) (x2 : Int32) (M : ps_M) (hk : ok_X6_readArrivals x1 x2 M) : ps_G (pm_Y E) X (fv_X6_readArrivals x1 x2 M) 0 [(0, .ref (ps_ad E 0)), (1, .int x1), (2, .int x2)] [] M := by
  unfold fv_X6_readArrivals
  unfold ok_X6_readArrivals at hk
  refine gw_aload_n C 1 dX6_readArrivals_0 0 rfl rfl ?_
  refine gw_iload_n C 2 dX6_readArrivals_1 1 rfl rfl ?_
  refine gw_cVp C 5 dX6_readArrivals_2 rfl yv_X6_isStation lk_X6_50 [.int x1] [] rfl (ct_X6_isStation (E := E) (l := ps_l X) x1 M hk.1) pm_recv rfl (Nat.le_of_ble_eq_true rfl) (Nat.le_of_ble_eq_true rfl) (Nat.le_of_ble_eq_true rfl) ?_
  refine gw_if_ne C 10 8 dX6_readArrivals_5 (by decide) rfl (fun c5 => ?_) (fun c5 => ?_)
  · refine gw_iconst C 9 dX6_readArrivals_8 (v := (-1)) (by decide) rfl ?_
    exact RT _ _ _ _ dX6_readArrivals_9 rfl
  · refine gw_iload_n C 11 dX6_readArrivals_10 2 rfl rfl ?_
    refine gw_aload_n C 12 dX6_readArrivals_11 0 rfl rfl ?_
    refine gf_X6_7 C 15 dX6_readArrivals_12 rfl ?_
    refine gw_iconst C 16 dX6_readArrivals_15 (v := 0) (by decide) rfl ?_
    refine gm_ld C 17 dX6_readArrivals_16 rfl (by decide) (hk.2.2 c5).1 ?_
    refine gw_bipush C 19 dX6_readArrivals_17 (v := 14) (by decide) rfl ?_
    refine gw_cSp C 22 dX6_readArrivals_19 rfl yv_X6_in lk_X6_36 [.int x2, .int (M 1 ((0 : Int32)).toNatClampNeg), .int (14 : Int32)] [] rfl (ct_X6_in (E := E) (l := ps_l X) x2 (M 1 ((0 : Int32)).toNatClampNeg) (14 : Int32) M (hk.2.2 c5).2.1) rfl (Nat.le_of_ble_eq_true rfl) (Nat.le_of_ble_eq_true rfl) (Nat.le_of_ble_eq_true rfl) ?_
    refine gw_if_ne C 28 25 dX6_readArrivals_22 (by decide) rfl (fun c22 => ?_) (fun c22 => ?_)
    · refine gw_bipush C 27 dX6_readArrivals_25 (v := (-2)) (by decide) rfl ?_
      exact RT _ _ _ _ dX6_readArrivals_27 rfl
    · refine gw_aload_n C 29 dX6_readArrivals_28 0 rfl rfl ?_
      refine gw_cVi C 32 dX6_readArrivals_29 rfl yv_X6_faultOf lk_X6_107 [] [] rfl (ct_X6_faultOf (E := E) (l := ps_l X) M ((hk.2.2 c5).2.2.2 c22).1) pm_recv rfl (Nat.le_of_ble_eq_true rfl) (Nat.le_of_ble_eq_true rfl) (Nat.le_of_ble_eq_true rfl) ?_
      refine gw_istore_n C 33 dX6_readArrivals_32 rfl [(0, .ref (ps_ad E 0)), (1, .int x1), (2, .int x2), (3, .int ((fv_X6_faultOf M).1))] [1, 2, 3, 0] (by decide) rfl ?_
      refine gw_iload_n C 34 dX6_readArrivals_33 3 rfl rfl ?_
      refine gw_bipush C 36 dX6_readArrivals_34 (v := (-5)) (by decide) rfl ?_
      refine gw_ic_eq C 44 39 dX6_readArrivals_36 (by decide) rfl (fun c36 => ?_) (fun c36 => ?_)
      · refine gw_iconst C 45 dX6_readArrivals_44 (v := 0) (by decide) rfl ?_
        refine gw_istore C 47 dX6_readArrivals_45 rfl [(0, .ref (ps_ad E 0)), (1, .int x1), (2, .int x2), (3, .int ((fv_X6_faultOf M).1)), (4, .int (0 : Int32))] [1, 2, 3, 4, 0] (by decide) rfl ?_
        refine gw_sub C [(0, .ref (ps_ad E 0)), (1, .int x1), (2, .int x2), (4, .int (0 : Int32))] [0, 1, 2, 4] rfl ?_
        exact bw_X6_readArrivals_47 C RT  ps_FU x1 x2 (0 : Int32) ((fv_X6_faultOf M).2) (((hk.2.2 c5).2.2.2 c22).2.1 c36)
      · refine gw_bipush C 41 dX6_readArrivals_39 (v := (-100)) (by decide) rfl ?_
        refine gw_iload_n C 42 dX6_readArrivals_41 3 rfl rfl ?_
        refine gw_isub C 43 dX6_readArrivals_42 rfl ?_
        exact RT _ _ _ _ dX6_readArrivals_43 rfl
theorem ct_X6_readArrivals {E : ps_E} {l : Launch} (x1 : Int32) (x2 : Int32)  (M : ps_M) (hk : ok_X6_readArrivals x1 x2 M) : ps_CI (pm_Y E) l yX6_readArrivals cX6_readArrivals 5 (some .int) 2 46 [.ref (ps_ad E 0), .int x1, .int x2] M (fv_X6_readArrivals x1 x2 M) := ps_metI RX6 (by decide) rfl (Nat.le_of_ble_eq_true rfl) rfl (fun X _ C RT => bw_X6_readArrivals C RT x1 x2 M hk)
def fv_X6_undo  (M : ps_M) : Int32 × ps_M := if (M 0 2) = 0 then (((-5 : Int32), M)) else ((((fv_X6_copies 2 (((ps_st M 0 2 ((M 0 2) - (1 : Int32))) 0 2) * (237 : Int32)) 1 (0 : Int32) (ps_st M 0 2 ((M 0 2) - (1 : Int32)))) 0 2), (fv_X6_copies 2 (((ps_st M 0 2 ((M 0 2) - (1 : Int32))) 0 2) * (237 : Int32)) 1 (0 : Int32) (ps_st M 0 2 ((M 0 2) - (1 : Int32))))))
def ok_X6_undo  (M : ps_M) : Prop := ((M 0 2) = 0 → True) ∧ (¬ ((M 0 2) = 0) → ((ok_X6_copies 2 (((ps_st M 0 2 ((M 0 2) - (1 : Int32))) 0 2) * (237 : Int32)) 1 (0 : Int32) (ps_st M 0 2 ((M 0 2) - (1 : Int32)))) ∧ True))
set_option maxRecDepth 100000 in
set_option maxHeartbeats 4000000 in
theorem bw_X6_undo {E : ps_E} {X : ps_X (Int32 × ps_M)} (C : ps_C (pm_Y E) X cX6_undo RX6 (some .int) 1 24 1) (RT : ps_RI (pm_Y E) X cX6_undo .int)  (M : ps_M) (hk : ok_X6_undo  M) : ps_G (pm_Y E) X (fv_X6_undo  M) 0 [(0, .ref (ps_ad E 0))] [] M := by
  unfold fv_X6_undo
  unfold ok_X6_undo at hk
  refine gw_aload_n C 1 dX6_undo_0 0 rfl rfl ?_
  refine gf_X6_28 C 4 dX6_undo_1 rfl ?_
  refine gw_if_ne C 10 7 dX6_undo_4 (by decide) rfl (fun c4 => ?_) (fun c4 => ?_)
  · refine gw_bipush C 9 dX6_undo_7 (v := (-5)) (by decide) rfl ?_
    exact RT _ _ _ _ dX6_undo_9 rfl
  · refine gw_aload_n C 11 dX6_undo_10 0 rfl rfl ?_
    refine gw_dup C 12 dX6_undo_11 rfl rfl ?_
    refine gf_X6_28 C 15 dX6_undo_12 rfl ?_
    refine gw_iconst C 16 dX6_undo_15 (v := 1) (by decide) rfl ?_
    refine gw_isub C 17 dX6_undo_16 rfl ?_
    refine pf_X6_28 C 20 dX6_undo_17 rfl ?_
    refine gw_aload_n C 21 dX6_undo_20 0 rfl rfl ?_
    refine gf_X6_13 C 24 dX6_undo_21 rfl ?_
    refine gw_aload_n C 25 dX6_undo_24 0 rfl rfl ?_
    refine gf_X6_28 C 28 dX6_undo_25 rfl ?_
    refine gw_sipush C 31 dX6_undo_28 (v := 237) (by decide) rfl ?_
    refine gw_imul C 32 dX6_undo_31 rfl ?_
    refine gw_aload_n C 33 dX6_undo_32 0 rfl rfl ?_
    refine gf_X6_7 C 36 dX6_undo_33 rfl ?_
    refine gw_iconst C 37 dX6_undo_36 (v := 0) (by decide) rfl ?_
    refine gw_cSv C 40 dX6_undo_37 rfl yv_X6_copies lk_X6_32 [.ref (ps_ad E 2), .int (((ps_st M 0 2 ((M 0 2) - (1 : Int32))) 0 2) * (237 : Int32)), .ref (ps_ad E 1), .int (0 : Int32)] [] rfl (ct_X6_copies (E := E) (l := ps_l X) 2 (((ps_st M 0 2 ((M 0 2) - (1 : Int32))) 0 2) * (237 : Int32)) 1 (0 : Int32) (by decide) (by decide) (ps_st M 0 2 ((M 0 2) - (1 : Int32))) (hk.2 c4).1) rfl (Nat.le_of_ble_eq_true rfl) (Nat.le_of_ble_eq_true rfl) (Nat.le_of_ble_eq_true rfl) ?_
    refine gw_aload_n C 41 dX6_undo_40 0 rfl rfl ?_
    refine gf_X6_28 C 44 dX6_undo_41 rfl ?_
    exact RT _ _ _ _ dX6_undo_44 rfl
theorem ct_X6_undo {E : ps_E} {l : Launch}   (M : ps_M) (hk : ok_X6_undo  M) : ps_CI (pm_Y E) l yX6_undo cX6_undo 1 (some .int) 1 24 [.ref (ps_ad E 0)] M (fv_X6_undo  M) := ps_metI RX6 (by decide) rfl (Nat.le_of_ble_eq_true rfl) rfl (fun X _ C RT => bw_X6_undo C RT M hk)
def fv_X6_keep  (M : ps_M) : Int32 × ps_M := (((ps_st (fv_X6_copies 1 (0 : Int32) 3 (0 : Int32) M) 0 4 (1 : Int32)) 1 ((0 : Int32)).toNatClampNeg), (ps_st (fv_X6_copies 1 (0 : Int32) 3 (0 : Int32) M) 0 4 (1 : Int32)))
def ok_X6_keep  (M : ps_M) : Prop := (ok_X6_copies 1 (0 : Int32) 3 (0 : Int32) M) ∧ ((vp_in (0 : Int32) 237) ∧ True)
set_option maxRecDepth 100000 in
set_option maxHeartbeats 4000000 in
theorem bw_X6_keep {E : ps_E} {X : ps_X (Int32 × ps_M)} (C : ps_C (pm_Y E) X cX6_keep RX6 (some .int) 1 24 1) (RT : ps_RI (pm_Y E) X cX6_keep .int)  (M : ps_M) (hk : ok_X6_keep  M) : ps_G (pm_Y E) X (fv_X6_keep  M) 0 [(0, .ref (ps_ad E 0))] [] M := by
  unfold fv_X6_keep
  unfold ok_X6_keep at hk
  refine gw_aload_n C 1 dX6_keep_0 0 rfl rfl ?_
  refine gf_X6_7 C 4 dX6_keep_1 rfl ?_
  refine gw_iconst C 5 dX6_keep_4 (v := 0) (by decide) rfl ?_
  refine gw_aload_n C 6 dX6_keep_5 0 rfl rfl ?_
  refine gf_X6_16 C 9 dX6_keep_6 rfl ?_
  refine gw_iconst C 10 dX6_keep_9 (v := 0) (by decide) rfl ?_
  refine gw_cSv C 13 dX6_keep_10 rfl yv_X6_copies lk_X6_32 [.ref (ps_ad E 1), .int (0 : Int32), .ref (ps_ad E 3), .int (0 : Int32)] [] rfl (ct_X6_copies (E := E) (l := ps_l X) 1 (0 : Int32) 3 (0 : Int32) (by decide) (by decide) M hk.1) rfl (Nat.le_of_ble_eq_true rfl) (Nat.le_of_ble_eq_true rfl) (Nat.le_of_ble_eq_true rfl) ?_
  refine gw_aload_n C 14 dX6_keep_13 0 rfl rfl ?_
  refine gw_iconst C 15 dX6_keep_14 (v := 1) (by decide) rfl ?_
  refine pf_X6_110 C 18 dX6_keep_15 rfl ps_nb1 (by decide) ?_
  refine gw_aload_n C 19 dX6_keep_18 0 rfl rfl ?_
  refine gf_X6_7 C 22 dX6_keep_19 rfl ?_
  refine gw_iconst C 23 dX6_keep_22 (v := 0) (by decide) rfl ?_
  refine gm_ld C 24 dX6_keep_23 rfl (by decide) hk.2.1 ?_
  exact RT _ _ _ _ dX6_keep_24 rfl
theorem ct_X6_keep {E : ps_E} {l : Launch}   (M : ps_M) (hk : ok_X6_keep  M) : ps_CI (pm_Y E) l yX6_keep cX6_keep 1 (some .int) 1 24 [.ref (ps_ad E 0)] M (fv_X6_keep  M) := ps_metI RX6 (by decide) rfl (Nat.le_of_ble_eq_true rfl) rfl (fun X _ C RT => bw_X6_keep C RT M hk)
def fv_X6_restore  (M : ps_M) : Int32 × ps_M := if (M 0 4) = 0 then (((-5 : Int32), M)) else ((((fv_X6_copies 3 (0 : Int32) 1 (0 : Int32) (fv_X6_records M)) 1 ((0 : Int32)).toNatClampNeg), (fv_X6_copies 3 (0 : Int32) 1 (0 : Int32) (fv_X6_records M))))
def ok_X6_restore  (M : ps_M) : Prop := ((M 0 4) = 0 → True) ∧ (¬ ((M 0 4) = 0) → ((ok_X6_records M) ∧ ((ok_X6_copies 3 (0 : Int32) 1 (0 : Int32) (fv_X6_records M)) ∧ ((vp_in (0 : Int32) 237) ∧ True))))
set_option maxRecDepth 100000 in
set_option maxHeartbeats 4000000 in
theorem bw_X6_restore {E : ps_E} {X : ps_X (Int32 × ps_M)} (C : ps_C (pm_Y E) X cX6_restore RX6 (some .int) 2 45 1) (RT : ps_RI (pm_Y E) X cX6_restore .int)  (M : ps_M) (hk : ok_X6_restore  M) : ps_G (pm_Y E) X (fv_X6_restore  M) 0 [(0, .ref (ps_ad E 0))] [] M := by
  unfold fv_X6_restore
  unfold ok_X6_restore at hk
  refine gw_aload_n C 1 dX6_restore_0 0 rfl rfl ?_
  refine gf_X6_110 C 4 dX6_restore_1 rfl ?_
  refine gw_if_ne C 10 7 dX6_restore_4 (by decide) rfl (fun c4 => ?_) (fun c4 => ?_)
  · refine gw_bipush C 9 dX6_restore_7 (v := (-5)) (by decide) rfl ?_
    exact RT _ _ _ _ dX6_restore_9 rfl
  · refine gw_aload_n C 11 dX6_restore_10 0 rfl rfl ?_
    refine gw_cVv C 14 dX6_restore_11 rfl yv_X6_records lk_X6_40 [] [] rfl (ct_X6_records (E := E) (l := ps_l X) M (hk.2 c4).1) pm_recv rfl (Nat.le_of_ble_eq_true rfl) (Nat.le_of_ble_eq_true rfl) (Nat.le_of_ble_eq_true rfl) ?_
    refine gw_aload_n C 15 dX6_restore_14 0 rfl rfl ?_
    refine gf_X6_16 C 18 dX6_restore_15 rfl ?_
    refine gw_iconst C 19 dX6_restore_18 (v := 0) (by decide) rfl ?_
    refine gw_aload_n C 20 dX6_restore_19 0 rfl rfl ?_
    refine gf_X6_7 C 23 dX6_restore_20 rfl ?_
    refine gw_iconst C 24 dX6_restore_23 (v := 0) (by decide) rfl ?_
    refine gw_cSv C 27 dX6_restore_24 rfl yv_X6_copies lk_X6_32 [.ref (ps_ad E 3), .int (0 : Int32), .ref (ps_ad E 1), .int (0 : Int32)] [] rfl (ct_X6_copies (E := E) (l := ps_l X) 3 (0 : Int32) 1 (0 : Int32) (by decide) (by decide) (fv_X6_records M) (hk.2 c4).2.1) rfl (Nat.le_of_ble_eq_true rfl) (Nat.le_of_ble_eq_true rfl) (Nat.le_of_ble_eq_true rfl) ?_
    refine gw_aload_n C 28 dX6_restore_27 0 rfl rfl ?_
    refine gf_X6_7 C 31 dX6_restore_28 rfl ?_
    refine gw_iconst C 32 dX6_restore_31 (v := 0) (by decide) rfl ?_
    refine gm_ld C 33 dX6_restore_32 rfl (by decide) (hk.2 c4).2.2.1 ?_
    exact RT _ _ _ _ dX6_restore_33 rfl
theorem ct_X6_restore {E : ps_E} {l : Launch}   (M : ps_M) (hk : ok_X6_restore  M) : ps_CI (pm_Y E) l yX6_restore cX6_restore 1 (some .int) 2 45 [.ref (ps_ad E 0)] M (fv_X6_restore  M) := ps_metI RX6 (by decide) rfl (Nat.le_of_ble_eq_true rfl) rfl (fun X _ C RT => bw_X6_restore C RT M hk)
def fv_X6_toServe (x1 : Int32) (M : ps_M) : Int32 := if (fv_X6_of x1 (0 : Int32) M) = 0 then ((0 : Int32)) else (if (fv_X6_serveAt x1 M) = 0 then ((-5 : Int32)) else (((((fv_X6_of x1 (0 : Int32) M) + (fv_X6_serveAt x1 M)) - (1 : Int32)) / (fv_X6_serveAt x1 M))))
def ok_X6_toServe (x1 : Int32) (M : ps_M) : Prop := (ok_X6_of x1 (0 : Int32) M) ∧ ((ok_X6_serveAt x1 M) ∧ (((fv_X6_of x1 (0 : Int32) M) = 0 → True) ∧ (¬ ((fv_X6_of x1 (0 : Int32) M) = 0) → (((fv_X6_serveAt x1 M) = 0 → True) ∧ (¬ ((fv_X6_serveAt x1 M) = 0) → ((¬ (fv_X6_serveAt x1 M) = 0) ∧ True))))))
set_option maxRecDepth 100000 in
set_option maxHeartbeats 4000000 in
theorem bw_X6_toServe {E : ps_E} {X : ps_X (Int32 × ps_M)} (C : ps_C (pm_Y E) X cX6_toServe RX6 (some .int) 2 45 4) (RT : ps_RI (pm_Y E) X cX6_toServe .int) (M : ps_M) (x1 : Int32) (hk : ok_X6_toServe x1 M) : ps_G (pm_Y E) X (fv_X6_toServe x1 M, M) 0 [(0, .ref (ps_ad E 0)), (1, .int x1)] [] M := by
  unfold fv_X6_toServe
  unfold ok_X6_toServe at hk
  refine gw_aload_n C 1 dX6_toServe_0 0 rfl rfl ?_
  refine gw_iload_n C 2 dX6_toServe_1 1 rfl rfl ?_
  refine gw_iconst C 3 dX6_toServe_2 (v := 0) (by decide) rfl ?_
  refine gw_cVp C 6 dX6_toServe_3 rfl yv_X6_of lk_X6_54 [.int x1, .int (0 : Int32)] [] rfl (ct_X6_of (E := E) (l := ps_l X) x1 (0 : Int32) M hk.1) pm_recv rfl (Nat.le_of_ble_eq_true rfl) (Nat.le_of_ble_eq_true rfl) (Nat.le_of_ble_eq_true rfl) ?_
  refine gw_istore_n C 7 dX6_toServe_6 rfl [(0, .ref (ps_ad E 0)), (1, .int x1), (2, .int (fv_X6_of x1 (0 : Int32) M))] [1, 2, 0] (by decide) rfl ?_
  refine gw_aload_n C 8 dX6_toServe_7 0 rfl rfl ?_
  refine gw_iload_n C 9 dX6_toServe_8 1 rfl rfl ?_
  refine gw_cVp C 12 dX6_toServe_9 rfl yv_X6_serveAt lk_X6_78 [.int x1] [] rfl (ct_X6_serveAt (E := E) (l := ps_l X) x1 M hk.2.1) pm_recv rfl (Nat.le_of_ble_eq_true rfl) (Nat.le_of_ble_eq_true rfl) (Nat.le_of_ble_eq_true rfl) ?_
  refine gw_istore_n C 13 dX6_toServe_12 rfl [(0, .ref (ps_ad E 0)), (1, .int x1), (2, .int (fv_X6_of x1 (0 : Int32) M)), (3, .int (fv_X6_serveAt x1 M))] [1, 2, 3, 0] (by decide) rfl ?_
  refine gw_iload_n C 14 dX6_toServe_13 2 rfl rfl ?_
  refine gw_if_neP C 21 17 dX6_toServe_14 (by decide) rfl (fun c14 => ?_) (fun c14 => ?_)
  · refine gw_iconst C 18 dX6_toServe_17 (v := 0) (by decide) rfl ?_
    refine gw_goto C 37 dX6_toServe_18 (by decide) ?_
    exact RT _ _ _ _ dX6_toServe_37 rfl
  · refine gw_iload_n C 22 dX6_toServe_21 3 rfl rfl ?_
    refine gw_if_neP C 30 25 dX6_toServe_22 (by decide) rfl (fun c22 => ?_) (fun c22 => ?_)
    · refine gw_bipush C 27 dX6_toServe_25 (v := (-5)) (by decide) rfl ?_
      refine gw_goto C 37 dX6_toServe_27 (by decide) ?_
      exact RT _ _ _ _ dX6_toServe_37 rfl
    · refine gw_iload_n C 31 dX6_toServe_30 2 rfl rfl ?_
      refine gw_iload_n C 32 dX6_toServe_31 3 rfl rfl ?_
      refine gw_iadd C 33 dX6_toServe_32 rfl ?_
      refine gw_iconst C 34 dX6_toServe_33 (v := 1) (by decide) rfl ?_
      refine gw_isub C 35 dX6_toServe_34 rfl ?_
      refine gw_iload_n C 36 dX6_toServe_35 3 rfl rfl ?_
      refine gw_idiv C 37 dX6_toServe_36 ((hk.2.2.2 c14).2 c22).1 rfl ?_
      exact RT _ _ _ _ dX6_toServe_37 rfl
theorem ct_X6_toServe {E : ps_E} {l : Launch} (x1 : Int32)  (M : ps_M) (hk : ok_X6_toServe x1 M) : ps_CI (pm_Y E) l yX6_toServe cX6_toServe 4 (some .int) 2 45 [.ref (ps_ad E 0), .int x1] M (fv_X6_toServe x1 M, M) := ps_metI RX6 (by decide) rfl (Nat.le_of_ble_eq_true rfl) rfl (fun X _ C RT => bw_X6_toServe C RT M x1 hk)
def fv_X6_arrivalsAll_4 : Nat → Int32 → Int32 → Int32 → ps_M → Int32
  | 0, _, _, _, M => 0
  | n + 1, x1, x2, x3, M => if (15 : Int32) ≤ x3 then x2 else (fv_X6_arrivalsAll_4 n x1 (x2 + (fv_X6_of x1 ((12 : Int32) + x3) M)) (x3 + (1 : Int32)) M)
theorem fv_X6_arrivalsAll_4_s (n : Nat) (x1 : Int32) (x2 : Int32) (x3 : Int32) (M : ps_M) : fv_X6_arrivalsAll_4 (n + 1) x1 x2 x3 M = (if (15 : Int32) ≤ x3 then x2 else (fv_X6_arrivalsAll_4 n x1 (x2 + (fv_X6_of x1 ((12 : Int32) + x3) M)) (x3 + (1 : Int32)) M)) := rfl
def ok_X6_arrivalsAll_4 : Nat → Int32 → Int32 → Int32 → ps_M → Prop
  | 0, _, _, _, _ => False
  | n + 1, x1, x2, x3, M => ((15 : Int32) ≤ x3 → True) ∧ (¬ ((15 : Int32) ≤ x3) → ((ok_X6_of x1 ((12 : Int32) + x3) M) ∧ (ok_X6_arrivalsAll_4 n x1 (x2 + (fv_X6_of x1 ((12 : Int32) + x3) M)) (x3 + (1 : Int32)) M)))
theorem ok_X6_arrivalsAll_4_s (n : Nat) (x1 : Int32) (x2 : Int32) (x3 : Int32) (M : ps_M) : ok_X6_arrivalsAll_4 (n + 1) x1 x2 x3 M = (((15 : Int32) ≤ x3 → True) ∧ (¬ ((15 : Int32) ≤ x3) → ((ok_X6_of x1 ((12 : Int32) + x3) M) ∧ (ok_X6_arrivalsAll_4 n x1 (x2 + (fv_X6_of x1 ((12 : Int32) + x3) M)) (x3 + (1 : Int32)) M)))) := rfl
set_option maxRecDepth 100000 in
set_option maxHeartbeats 4000000 in
theorem bw_X6_arrivalsAll_4 {E : ps_E} {X : ps_X (Int32 × ps_M)} (C : ps_C (pm_Y E) X cX6_arrivalsAll RX6 (some .int) 1 22 4) (RT : ps_RI (pm_Y E) X cX6_arrivalsAll .int) (M : ps_M) : ∀ (n : Nat) (x1 : Int32) (x2 : Int32) (x3 : Int32), ok_X6_arrivalsAll_4 n x1 x2 x3 M → ps_G (pm_Y E) X (fv_X6_arrivalsAll_4 n x1 x2 x3 M, M) 4 [(0, .ref (ps_ad E 0)), (1, .int x1), (2, .int x2), (3, .int x3)] [] M := by
  intro n
  induction n with
  | zero => intro x1 x2 x3 h; exact h.elim
  | succ n ih =>
    intro x1 x2 x3 hk
    rw [fv_X6_arrivalsAll_4_s]
    rw [ok_X6_arrivalsAll_4_s] at hk
    refine gw_iload_n C 5 dX6_arrivalsAll_4 3 rfl rfl ?_
    refine gw_bipush C 7 dX6_arrivalsAll_5 (v := 15) (by decide) rfl ?_
    refine gw_ic_geP C 28 10 dX6_arrivalsAll_7 (by decide) rfl (fun c7 => ?_) (fun c7 => ?_)
    · refine gw_iload_n C 29 dX6_arrivalsAll_28 2 rfl rfl ?_
      exact RT _ _ _ _ dX6_arrivalsAll_29 rfl
    · refine gw_iload_n C 11 dX6_arrivalsAll_10 2 rfl rfl ?_
      refine gw_aload_n C 12 dX6_arrivalsAll_11 0 rfl rfl ?_
      refine gw_iload_n C 13 dX6_arrivalsAll_12 1 rfl rfl ?_
      refine gw_bipush C 15 dX6_arrivalsAll_13 (v := 12) (by decide) rfl ?_
      refine gw_iload_n C 16 dX6_arrivalsAll_15 3 rfl rfl ?_
      refine gw_iadd C 17 dX6_arrivalsAll_16 rfl ?_
      refine gw_cVp C 20 dX6_arrivalsAll_17 rfl yv_X6_of lk_X6_54 [.int x1, .int ((12 : Int32) + x3)] [.int x2] rfl (ct_X6_of (E := E) (l := ps_l X) x1 ((12 : Int32) + x3) M (hk.2 c7).1) pm_recv rfl (Nat.le_of_ble_eq_true rfl) (Nat.le_of_ble_eq_true rfl) (Nat.le_of_ble_eq_true rfl) ?_
      refine gw_iadd C 21 dX6_arrivalsAll_20 rfl ?_
      refine gw_istore_n C 22 dX6_arrivalsAll_21 rfl [(0, .ref (ps_ad E 0)), (1, .int x1), (2, .int (x2 + (fv_X6_of x1 ((12 : Int32) + x3) M))), (3, .int x3)] [1, 2, 0, 3] (by decide) rfl ?_
      refine gw_iinc C 25 dX6_arrivalsAll_22 rfl (y := 1) (by decide) rfl 3 rfl [(0, .ref (ps_ad E 0)), (1, .int x1), (2, .int (x2 + (fv_X6_of x1 ((12 : Int32) + x3) M))), (3, .int (x3 + (1 : Int32)))] [1, 2, 3, 0] (by decide) rfl ?_
      refine gw_goto C 4 dX6_arrivalsAll_25 (by decide) ?_
      exact ih x1 (x2 + (fv_X6_of x1 ((12 : Int32) + x3) M)) (x3 + (1 : Int32)) (hk.2 c7).2
def fv_X6_arrivalsAll (x1 : Int32) (M : ps_M) : Int32 := fv_X6_arrivalsAll_4 ps_FU x1 (0 : Int32) (0 : Int32) M
def ok_X6_arrivalsAll (x1 : Int32) (M : ps_M) : Prop := ok_X6_arrivalsAll_4 ps_FU x1 (0 : Int32) (0 : Int32) M
set_option maxRecDepth 100000 in
set_option maxHeartbeats 4000000 in
theorem bw_X6_arrivalsAll {E : ps_E} {X : ps_X (Int32 × ps_M)} (C : ps_C (pm_Y E) X cX6_arrivalsAll RX6 (some .int) 1 22 4) (RT : ps_RI (pm_Y E) X cX6_arrivalsAll .int) (M : ps_M) (x1 : Int32) (hk : ok_X6_arrivalsAll x1 M) : ps_G (pm_Y E) X (fv_X6_arrivalsAll x1 M, M) 0 [(0, .ref (ps_ad E 0)), (1, .int x1)] [] M := by
  unfold fv_X6_arrivalsAll
  unfold ok_X6_arrivalsAll at hk
  refine gw_iconst C 1 dX6_arrivalsAll_0 (v := 0) (by decide) rfl ?_
  refine gw_istore_n C 2 dX6_arrivalsAll_1 rfl [(0, .ref (ps_ad E 0)), (1, .int x1), (2, .int (0 : Int32))] [1, 2, 0] (by decide) rfl ?_
  refine gw_iconst C 3 dX6_arrivalsAll_2 (v := 0) (by decide) rfl ?_
  refine gw_istore_n C 4 dX6_arrivalsAll_3 rfl [(0, .ref (ps_ad E 0)), (1, .int x1), (2, .int (0 : Int32)), (3, .int (0 : Int32))] [1, 2, 3, 0] (by decide) rfl ?_
  exact bw_X6_arrivalsAll_4 C RT M  ps_FU x1 (0 : Int32) (0 : Int32) hk
theorem ct_X6_arrivalsAll {E : ps_E} {l : Launch} (x1 : Int32)  (M : ps_M) (hk : ok_X6_arrivalsAll x1 M) : ps_CI (pm_Y E) l yX6_arrivalsAll cX6_arrivalsAll 4 (some .int) 1 22 [.ref (ps_ad E 0), .int x1] M (fv_X6_arrivalsAll x1 M, M) := ps_metI RX6 (by decide) rfl (Nat.le_of_ble_eq_true rfl) rfl (fun X _ C RT => bw_X6_arrivalsAll C RT M x1 hk)
def fv_X6_station (x1 : Int32) (x2 : Int32) (M : ps_M) : Int32 := if (fv_X6_isStation x1 M) = 0 then ((-1 : Int32)) else (if x2 = (0 : Int32) then ((fv_X6_of x1 x2 M)) else (if x2 = (1 : Int32) then ((fv_X6_of x1 x2 M)) else (if x2 = (2 : Int32) then ((fv_X6_of x1 x2 M)) else (if x2 = (3 : Int32) then ((fv_X6_of x1 x2 M)) else (if x2 = (4 : Int32) then ((fv_X6_onDutyAt x1 M)) else (if x2 = (5 : Int32) then ((fv_X6_serveAt x1 M)) else (if x2 = (6 : Int32) then ((fv_X6_arrivalsAll x1 M)) else (if x2 = (7 : Int32) then ((fv_X6_toServe x1 M)) else ((-2 : Int32))))))))))
def ok_X6_station (x1 : Int32) (x2 : Int32) (M : ps_M) : Prop := (ok_X6_isStation x1 M) ∧ (((fv_X6_isStation x1 M) = 0 → True) ∧ (¬ ((fv_X6_isStation x1 M) = 0) → ((x2 = (0 : Int32) → ((ok_X6_of x1 x2 M) ∧ True)) ∧ (¬ (x2 = (0 : Int32)) → ((x2 = (1 : Int32) → ((ok_X6_of x1 x2 M) ∧ True)) ∧ (¬ (x2 = (1 : Int32)) → ((x2 = (2 : Int32) → ((ok_X6_of x1 x2 M) ∧ True)) ∧ (¬ (x2 = (2 : Int32)) → ((x2 = (3 : Int32) → ((ok_X6_of x1 x2 M) ∧ True)) ∧ (¬ (x2 = (3 : Int32)) → ((x2 = (4 : Int32) → ((ok_X6_onDutyAt x1 M) ∧ True)) ∧ (¬ (x2 = (4 : Int32)) → ((x2 = (5 : Int32) → ((ok_X6_serveAt x1 M) ∧ True)) ∧ (¬ (x2 = (5 : Int32)) → ((x2 = (6 : Int32) → ((ok_X6_arrivalsAll x1 M) ∧ True)) ∧ (¬ (x2 = (6 : Int32)) → ((x2 = (7 : Int32) → ((ok_X6_toServe x1 M) ∧ True)) ∧ (¬ (x2 = (7 : Int32)) → True))))))))))))))))))
set_option maxRecDepth 100000 in
set_option maxHeartbeats 4000000 in
theorem bw_X6_station {E : ps_E} {X : ps_X (Int32 × ps_M)} (C : ps_C (pm_Y E) X cX6_station RX6 (some .int) 3 68 3) (RT : ps_RI (pm_Y E) X cX6_station .int) (M : ps_M) (x1 : Int32) (x2 : Int32) (hk : ok_X6_station x1 x2 M) : ps_G (pm_Y E) X (fv_X6_station x1 x2 M, M) 0 [(0, .ref (ps_ad E 0)), (1, .int x1), (2, .int x2)] [] M := by
  unfold fv_X6_station
  unfold ok_X6_station at hk
  refine gw_aload_n C 1 dX6_station_0 0 rfl rfl ?_
  refine gw_iload_n C 2 dX6_station_1 1 rfl rfl ?_
  refine gw_cVp C 5 dX6_station_2 rfl yv_X6_isStation lk_X6_50 [.int x1] [] rfl (ct_X6_isStation (E := E) (l := ps_l X) x1 M hk.1) pm_recv rfl (Nat.le_of_ble_eq_true rfl) (Nat.le_of_ble_eq_true rfl) (Nat.le_of_ble_eq_true rfl) ?_
  refine gw_if_neP C 10 8 dX6_station_5 (by decide) rfl (fun c5 => ?_) (fun c5 => ?_)
  · refine gw_iconst C 9 dX6_station_8 (v := (-1)) (by decide) rfl ?_
    exact RT _ _ _ _ dX6_station_9 rfl
  · refine gw_iload_n C 11 dX6_station_10 2 rfl rfl ?_
    refine gw_caseP C (0 : Int32) (fun c11_0 => ?_) (fun c11_0 => ?_)
    · refine gw_tin C 56 (0) (45) c11_0 (by decide) dX6_station_11 (by decide) (by decide) (by decide +kernel) (by decide) ?_
      refine gw_aload_n C 57 dX6_station_56 0 rfl rfl ?_
      refine gw_iload_n C 58 dX6_station_57 1 rfl rfl ?_
      refine gw_iload_n C 59 dX6_station_58 2 rfl rfl ?_
      refine gw_cVp C 62 dX6_station_59 rfl yv_X6_of lk_X6_54 [.int x1, .int x2] [] rfl (ct_X6_of (E := E) (l := ps_l X) x1 x2 M ((hk.2.2 c5).1 c11_0).1) pm_recv rfl (Nat.le_of_ble_eq_true rfl) (Nat.le_of_ble_eq_true rfl) (Nat.le_of_ble_eq_true rfl) ?_
      exact RT _ _ _ _ dX6_station_62 rfl
    refine gw_caseP C (1 : Int32) (fun c11_1 => ?_) (fun c11_1 => ?_)
    · refine gw_tin C 56 (1) (45) c11_1 (by decide) dX6_station_11 (by decide) (by decide) (by decide +kernel) (by decide) ?_
      refine gw_aload_n C 57 dX6_station_56 0 rfl rfl ?_
      refine gw_iload_n C 58 dX6_station_57 1 rfl rfl ?_
      refine gw_iload_n C 59 dX6_station_58 2 rfl rfl ?_
      refine gw_cVp C 62 dX6_station_59 rfl yv_X6_of lk_X6_54 [.int x1, .int x2] [] rfl (ct_X6_of (E := E) (l := ps_l X) x1 x2 M (((hk.2.2 c5).2 c11_0).1 c11_1).1) pm_recv rfl (Nat.le_of_ble_eq_true rfl) (Nat.le_of_ble_eq_true rfl) (Nat.le_of_ble_eq_true rfl) ?_
      exact RT _ _ _ _ dX6_station_62 rfl
    refine gw_caseP C (2 : Int32) (fun c11_2 => ?_) (fun c11_2 => ?_)
    · refine gw_tin C 56 (2) (45) c11_2 (by decide) dX6_station_11 (by decide) (by decide) (by decide +kernel) (by decide) ?_
      refine gw_aload_n C 57 dX6_station_56 0 rfl rfl ?_
      refine gw_iload_n C 58 dX6_station_57 1 rfl rfl ?_
      refine gw_iload_n C 59 dX6_station_58 2 rfl rfl ?_
      refine gw_cVp C 62 dX6_station_59 rfl yv_X6_of lk_X6_54 [.int x1, .int x2] [] rfl (ct_X6_of (E := E) (l := ps_l X) x1 x2 M ((((hk.2.2 c5).2 c11_0).2 c11_1).1 c11_2).1) pm_recv rfl (Nat.le_of_ble_eq_true rfl) (Nat.le_of_ble_eq_true rfl) (Nat.le_of_ble_eq_true rfl) ?_
      exact RT _ _ _ _ dX6_station_62 rfl
    refine gw_caseP C (3 : Int32) (fun c11_3 => ?_) (fun c11_3 => ?_)
    · refine gw_tin C 56 (3) (45) c11_3 (by decide) dX6_station_11 (by decide) (by decide) (by decide +kernel) (by decide) ?_
      refine gw_aload_n C 57 dX6_station_56 0 rfl rfl ?_
      refine gw_iload_n C 58 dX6_station_57 1 rfl rfl ?_
      refine gw_iload_n C 59 dX6_station_58 2 rfl rfl ?_
      refine gw_cVp C 62 dX6_station_59 rfl yv_X6_of lk_X6_54 [.int x1, .int x2] [] rfl (ct_X6_of (E := E) (l := ps_l X) x1 x2 M (((((hk.2.2 c5).2 c11_0).2 c11_1).2 c11_2).1 c11_3).1) pm_recv rfl (Nat.le_of_ble_eq_true rfl) (Nat.le_of_ble_eq_true rfl) (Nat.le_of_ble_eq_true rfl) ?_
      exact RT _ _ _ _ dX6_station_62 rfl
    refine gw_caseP C (4 : Int32) (fun c11_4 => ?_) (fun c11_4 => ?_)
    · refine gw_tin C 63 (4) (52) c11_4 (by decide) dX6_station_11 (by decide) (by decide) (by decide +kernel) (by decide) ?_
      refine gw_aload_n C 64 dX6_station_63 0 rfl rfl ?_
      refine gw_iload_n C 65 dX6_station_64 1 rfl rfl ?_
      refine gw_cVp C 68 dX6_station_65 rfl yv_X6_onDutyAt lk_X6_71 [.int x1] [] rfl (ct_X6_onDutyAt (E := E) (l := ps_l X) x1 M ((((((hk.2.2 c5).2 c11_0).2 c11_1).2 c11_2).2 c11_3).1 c11_4).1) pm_recv rfl (Nat.le_of_ble_eq_true rfl) (Nat.le_of_ble_eq_true rfl) (Nat.le_of_ble_eq_true rfl) ?_
      exact RT _ _ _ _ dX6_station_68 rfl
    refine gw_caseP C (5 : Int32) (fun c11_5 => ?_) (fun c11_5 => ?_)
    · refine gw_tin C 69 (5) (58) c11_5 (by decide) dX6_station_11 (by decide) (by decide) (by decide +kernel) (by decide) ?_
      refine gw_aload_n C 70 dX6_station_69 0 rfl rfl ?_
      refine gw_iload_n C 71 dX6_station_70 1 rfl rfl ?_
      refine gw_cVp C 74 dX6_station_71 rfl yv_X6_serveAt lk_X6_78 [.int x1] [] rfl (ct_X6_serveAt (E := E) (l := ps_l X) x1 M (((((((hk.2.2 c5).2 c11_0).2 c11_1).2 c11_2).2 c11_3).2 c11_4).1 c11_5).1) pm_recv rfl (Nat.le_of_ble_eq_true rfl) (Nat.le_of_ble_eq_true rfl) (Nat.le_of_ble_eq_true rfl) ?_
      exact RT _ _ _ _ dX6_station_74 rfl
    refine gw_caseP C (6 : Int32) (fun c11_6 => ?_) (fun c11_6 => ?_)
    · refine gw_tin C 75 (6) (64) c11_6 (by decide) dX6_station_11 (by decide) (by decide) (by decide +kernel) (by decide) ?_
      refine gw_aload_n C 76 dX6_station_75 0 rfl rfl ?_
      refine gw_iload_n C 77 dX6_station_76 1 rfl rfl ?_
      refine gw_cVp C 80 dX6_station_77 rfl yv_X6_arrivalsAll lk_X6_114 [.int x1] [] rfl (ct_X6_arrivalsAll (E := E) (l := ps_l X) x1 M ((((((((hk.2.2 c5).2 c11_0).2 c11_1).2 c11_2).2 c11_3).2 c11_4).2 c11_5).1 c11_6).1) pm_recv rfl (Nat.le_of_ble_eq_true rfl) (Nat.le_of_ble_eq_true rfl) (Nat.le_of_ble_eq_true rfl) ?_
      exact RT _ _ _ _ dX6_station_80 rfl
    refine gw_caseP C (7 : Int32) (fun c11_7 => ?_) (fun c11_7 => ?_)
    · refine gw_tin C 81 (7) (70) c11_7 (by decide) dX6_station_11 (by decide) (by decide) (by decide +kernel) (by decide) ?_
      refine gw_aload_n C 82 dX6_station_81 0 rfl rfl ?_
      refine gw_iload_n C 83 dX6_station_82 1 rfl rfl ?_
      refine gw_cVp C 86 dX6_station_83 rfl yv_X6_toServe lk_X6_117 [.int x1] [] rfl (ct_X6_toServe (E := E) (l := ps_l X) x1 M (((((((((hk.2.2 c5).2 c11_0).2 c11_1).2 c11_2).2 c11_3).2 c11_4).2 c11_5).2 c11_6).1 c11_7).1) pm_recv rfl (Nat.le_of_ble_eq_true rfl) (Nat.le_of_ble_eq_true rfl) (Nat.le_of_ble_eq_true rfl) ?_
      exact RT _ _ _ _ dX6_station_86 rfl
    refine gw_tout C 87 dX6_station_11 (by have e0 := ps_ne_int c11_0 (z := 0) (by decide); have e1 := ps_ne_int c11_1 (z := 1) (by decide); have e2 := ps_ne_int c11_2 (z := 2) (by decide); have e3 := ps_ne_int c11_3 (z := 3) (by decide); have e4 := ps_ne_int c11_4 (z := 4) (by decide); have e5 := ps_ne_int c11_5 (z := 5) (by decide); have e6 := ps_ne_int c11_6 (z := 6) (by decide); have e7 := ps_ne_int c11_7 (z := 7) (by decide); omega) (by decide) ?_
    refine gw_bipush C 89 dX6_station_87 (v := (-2)) (by decide) rfl ?_
    exact RT _ _ _ _ dX6_station_89 rfl
theorem ct_X6_station {E : ps_E} {l : Launch} (x1 : Int32) (x2 : Int32)  (M : ps_M) (hk : ok_X6_station x1 x2 M) : ps_CI (pm_Y E) l yX6_station cX6_station 3 (some .int) 3 68 [.ref (ps_ad E 0), .int x1, .int x2] M (fv_X6_station x1 x2 M, M) := ps_metI RX6 (by decide) rfl (Nat.le_of_ble_eq_true rfl) rfl (fun X _ C RT => bw_X6_station C RT M x1 x2 hk)
def fv_X6_papers_59 (x1 : Int32) (x2 : Int32) (M : ps_M) : Int32 := if (7 : Int32) ≤ x2 then (if x2 = (7 : Int32) then ((((fv_X6_of x1 (10 : Int32) M) - (fv_X6_of x1 (9 : Int32) M)) + (100000 : Int32))) else ((fv_X6_of x1 (11 : Int32) M))) else ((fv_X6_of x1 ((4 : Int32) + x2) M))
def ok_X6_papers_59 (x1 : Int32) (x2 : Int32) (M : ps_M) : Prop := ((7 : Int32) ≤ x2 → ((x2 = (7 : Int32) → ((ok_X6_of x1 (10 : Int32) M) ∧ ((ok_X6_of x1 (9 : Int32) M) ∧ True))) ∧ (¬ (x2 = (7 : Int32)) → ((ok_X6_of x1 (11 : Int32) M) ∧ True)))) ∧ (¬ ((7 : Int32) ≤ x2) → ((ok_X6_of x1 ((4 : Int32) + x2) M) ∧ True))
set_option maxRecDepth 100000 in
set_option maxHeartbeats 4000000 in
theorem bw_X6_papers_59 {E : ps_E} {X : ps_X (Int32 × ps_M)} (C : ps_C (pm_Y E) X cX6_papers RX6 (some .int) 2 43 4) (RT : ps_RI (pm_Y E) X cX6_papers .int) (M : ps_M) (x1 : Int32) (x2 : Int32) (hk : ok_X6_papers_59 x1 x2 M) : ps_G (pm_Y E) X (fv_X6_papers_59 x1 x2 M, M) 59 [(0, .ref (ps_ad E 0)), (1, .int x1), (2, .int x2)] [] M := by
  unfold fv_X6_papers_59
  unfold ok_X6_papers_59 at hk
  refine gw_iload_n C 60 dX6_papers_59 2 rfl rfl ?_
  refine gw_bipush C 62 dX6_papers_60 (v := 7) (by decide) rfl ?_
  refine gw_ic_geP C 76 65 dX6_papers_62 (by decide) rfl (fun c62 => ?_) (fun c62 => ?_)
  · refine gw_iload_n C 77 dX6_papers_76 2 rfl rfl ?_
    refine gw_bipush C 79 dX6_papers_77 (v := 7) (by decide) rfl ?_
    refine gw_ic_neP C 103 82 dX6_papers_79 (by decide) rfl (fun c79 => ?_) (fun c79 => ?_)
    · refine gw_aload_n C 83 dX6_papers_82 0 rfl rfl ?_
      refine gw_iload_n C 84 dX6_papers_83 1 rfl rfl ?_
      refine gw_bipush C 86 dX6_papers_84 (v := 10) (by decide) rfl ?_
      refine gw_cVp C 89 dX6_papers_86 rfl yv_X6_of lk_X6_54 [.int x1, .int (10 : Int32)] [] rfl (ct_X6_of (E := E) (l := ps_l X) x1 (10 : Int32) M ((hk.1 c62).1 c79).1) pm_recv rfl (Nat.le_of_ble_eq_true rfl) (Nat.le_of_ble_eq_true rfl) (Nat.le_of_ble_eq_true rfl) ?_
      refine gw_aload_n C 90 dX6_papers_89 0 rfl rfl ?_
      refine gw_iload_n C 91 dX6_papers_90 1 rfl rfl ?_
      refine gw_bipush C 93 dX6_papers_91 (v := 9) (by decide) rfl ?_
      refine gw_cVp C 96 dX6_papers_93 rfl yv_X6_of lk_X6_54 [.int x1, .int (9 : Int32)] [.int (fv_X6_of x1 (10 : Int32) M)] rfl (ct_X6_of (E := E) (l := ps_l X) x1 (9 : Int32) M ((hk.1 c62).1 c79).2.1) pm_recv rfl (Nat.le_of_ble_eq_true rfl) (Nat.le_of_ble_eq_true rfl) (Nat.le_of_ble_eq_true rfl) ?_
      refine gw_isub C 97 dX6_papers_96 rfl ?_
      refine gw_ldc C 99 dX6_papers_97 lk_X6_120 rfl ?_
      refine gw_iadd C 100 dX6_papers_99 rfl ?_
      refine gw_goto C 110 dX6_papers_100 (by decide) ?_
      exact RT _ _ _ _ dX6_papers_110 rfl
    · refine gw_aload_n C 104 dX6_papers_103 0 rfl rfl ?_
      refine gw_iload_n C 105 dX6_papers_104 1 rfl rfl ?_
      refine gw_bipush C 107 dX6_papers_105 (v := 11) (by decide) rfl ?_
      refine gw_cVp C 110 dX6_papers_107 rfl yv_X6_of lk_X6_54 [.int x1, .int (11 : Int32)] [] rfl (ct_X6_of (E := E) (l := ps_l X) x1 (11 : Int32) M ((hk.1 c62).2 c79).1) pm_recv rfl (Nat.le_of_ble_eq_true rfl) (Nat.le_of_ble_eq_true rfl) (Nat.le_of_ble_eq_true rfl) ?_
      exact RT _ _ _ _ dX6_papers_110 rfl
  · refine gw_aload_n C 66 dX6_papers_65 0 rfl rfl ?_
    refine gw_iload_n C 67 dX6_papers_66 1 rfl rfl ?_
    refine gw_iconst C 68 dX6_papers_67 (v := 4) (by decide) rfl ?_
    refine gw_iload_n C 69 dX6_papers_68 2 rfl rfl ?_
    refine gw_iadd C 70 dX6_papers_69 rfl ?_
    refine gw_cVp C 73 dX6_papers_70 rfl yv_X6_of lk_X6_54 [.int x1, .int ((4 : Int32) + x2)] [] rfl (ct_X6_of (E := E) (l := ps_l X) x1 ((4 : Int32) + x2) M (hk.2 c62).1) pm_recv rfl (Nat.le_of_ble_eq_true rfl) (Nat.le_of_ble_eq_true rfl) (Nat.le_of_ble_eq_true rfl) ?_
    refine gw_goto C 110 dX6_papers_73 (by decide) ?_
    exact RT _ _ _ _ dX6_papers_110 rfl
def fv_X6_papers_39 (x1 : Int32) (x2 : Int32) (s0 : Int32) (M : ps_M) : Int32 := if s0 = 0 then (fv_X6_papers_59 x1 x2 M) else (if x2 = (6 : Int32) then ((-5 : Int32)) else (if x2 = (7 : Int32) then ((-5 : Int32)) else (fv_X6_papers_59 x1 x2 M)))
def ok_X6_papers_39 (x1 : Int32) (x2 : Int32) (s0 : Int32) (M : ps_M) : Prop := (s0 = 0 → (ok_X6_papers_59 x1 x2 M)) ∧ (¬ (s0 = 0) → ((x2 = (6 : Int32) → True) ∧ (¬ (x2 = (6 : Int32)) → ((x2 = (7 : Int32) → True) ∧ (¬ (x2 = (7 : Int32)) → (ok_X6_papers_59 x1 x2 M))))))
set_option maxRecDepth 100000 in
set_option maxHeartbeats 4000000 in
theorem bw_X6_papers_39 {E : ps_E} {X : ps_X (Int32 × ps_M)} (C : ps_C (pm_Y E) X cX6_papers RX6 (some .int) 2 43 4) (RT : ps_RI (pm_Y E) X cX6_papers .int) (M : ps_M) (x1 : Int32) (x2 : Int32) (s0 : Int32) (hk : ok_X6_papers_39 x1 x2 s0 M) : ps_G (pm_Y E) X (fv_X6_papers_39 x1 x2 s0 M, M) 39 [(0, .ref (ps_ad E 0)), (1, .int x1), (2, .int x2)] [.int s0] M := by
  unfold fv_X6_papers_39
  unfold ok_X6_papers_39 at hk
  refine gw_istore_n C 40 dX6_papers_39 rfl [(0, .ref (ps_ad E 0)), (1, .int x1), (2, .int x2), (3, .int s0)] [1, 2, 3, 0] (by decide) rfl ?_
  refine gw_iload_n C 41 dX6_papers_40 3 rfl rfl ?_
  refine gw_if_eqP C 59 44 dX6_papers_41 (by decide) rfl (fun c41 => ?_) (fun c41 => ?_)
  · refine gw_sub C [(0, .ref (ps_ad E 0)), (1, .int x1), (2, .int x2)] [0, 1, 2] rfl ?_
    exact bw_X6_papers_59 C RT M  x1 x2 (hk.1 c41)
  · refine gw_iload_n C 45 dX6_papers_44 2 rfl rfl ?_
    refine gw_bipush C 47 dX6_papers_45 (v := 6) (by decide) rfl ?_
    refine gw_ic_eqP C 56 50 dX6_papers_47 (by decide) rfl (fun c47 => ?_) (fun c47 => ?_)
    · refine gw_bipush C 58 dX6_papers_56 (v := (-5)) (by decide) rfl ?_
      exact RT _ _ _ _ dX6_papers_58 rfl
    · refine gw_iload_n C 51 dX6_papers_50 2 rfl rfl ?_
      refine gw_bipush C 53 dX6_papers_51 (v := 7) (by decide) rfl ?_
      refine gw_ic_neP C 59 56 dX6_papers_53 (by decide) rfl (fun c53 => ?_) (fun c53 => ?_)
      · refine gw_bipush C 58 dX6_papers_56 (v := (-5)) (by decide) rfl ?_
        exact RT _ _ _ _ dX6_papers_58 rfl
      · refine gw_sub C [(0, .ref (ps_ad E 0)), (1, .int x1), (2, .int x2)] [0, 1, 2] rfl ?_
        exact bw_X6_papers_59 C RT M  x1 x2 (((hk.2 c41).2 c47).2 c53)
def fv_X6_papers (x1 : Int32) (x2 : Int32) (M : ps_M) : Int32 := if (fv_X6_isStation x1 M) = 0 then ((-1 : Int32)) else (if (fv_X6_in x2 (0 : Int32) (8 : Int32) M) = 0 then ((-2 : Int32)) else (if (fv_X6_of x1 (10 : Int32) M) = (-1 : Int32) then (fv_X6_papers_39 x1 x2 (1 : Int32) M) else (fv_X6_papers_39 x1 x2 (0 : Int32) M)))
def ok_X6_papers (x1 : Int32) (x2 : Int32) (M : ps_M) : Prop := (ok_X6_isStation x1 M) ∧ (((fv_X6_isStation x1 M) = 0 → True) ∧ (¬ ((fv_X6_isStation x1 M) = 0) → ((ok_X6_in x2 (0 : Int32) (8 : Int32) M) ∧ (((fv_X6_in x2 (0 : Int32) (8 : Int32) M) = 0 → True) ∧ (¬ ((fv_X6_in x2 (0 : Int32) (8 : Int32) M) = 0) → ((ok_X6_of x1 (10 : Int32) M) ∧ (((fv_X6_of x1 (10 : Int32) M) = (-1 : Int32) → (ok_X6_papers_39 x1 x2 (1 : Int32) M)) ∧ (¬ ((fv_X6_of x1 (10 : Int32) M) = (-1 : Int32)) → (ok_X6_papers_39 x1 x2 (0 : Int32) M)))))))))
set_option maxRecDepth 100000 in
set_option maxHeartbeats 4000000 in
theorem bw_X6_papers {E : ps_E} {X : ps_X (Int32 × ps_M)} (C : ps_C (pm_Y E) X cX6_papers RX6 (some .int) 2 43 4) (RT : ps_RI (pm_Y E) X cX6_papers .int) (M : ps_M) (x1 : Int32) (x2 : Int32) (hk : ok_X6_papers x1 x2 M) : ps_G (pm_Y E) X (fv_X6_papers x1 x2 M, M) 0 [(0, .ref (ps_ad E 0)), (1, .int x1), (2, .int x2)] [] M := by
  unfold fv_X6_papers
  unfold ok_X6_papers at hk
  refine gw_aload_n C 1 dX6_papers_0 0 rfl rfl ?_
  refine gw_iload_n C 2 dX6_papers_1 1 rfl rfl ?_
  refine gw_cVp C 5 dX6_papers_2 rfl yv_X6_isStation lk_X6_50 [.int x1] [] rfl (ct_X6_isStation (E := E) (l := ps_l X) x1 M hk.1) pm_recv rfl (Nat.le_of_ble_eq_true rfl) (Nat.le_of_ble_eq_true rfl) (Nat.le_of_ble_eq_true rfl) ?_
  refine gw_if_neP C 10 8 dX6_papers_5 (by decide) rfl (fun c5 => ?_) (fun c5 => ?_)
  · refine gw_iconst C 9 dX6_papers_8 (v := (-1)) (by decide) rfl ?_
    exact RT _ _ _ _ dX6_papers_9 rfl
  · refine gw_iload_n C 11 dX6_papers_10 2 rfl rfl ?_
    refine gw_iconst C 12 dX6_papers_11 (v := 0) (by decide) rfl ?_
    refine gw_bipush C 14 dX6_papers_12 (v := 8) (by decide) rfl ?_
    refine gw_cSp C 17 dX6_papers_14 rfl yv_X6_in lk_X6_36 [.int x2, .int (0 : Int32), .int (8 : Int32)] [] rfl (ct_X6_in (E := E) (l := ps_l X) x2 (0 : Int32) (8 : Int32) M (hk.2.2 c5).1) rfl (Nat.le_of_ble_eq_true rfl) (Nat.le_of_ble_eq_true rfl) (Nat.le_of_ble_eq_true rfl) ?_
    refine gw_if_neP C 23 20 dX6_papers_17 (by decide) rfl (fun c17 => ?_) (fun c17 => ?_)
    · refine gw_bipush C 22 dX6_papers_20 (v := (-2)) (by decide) rfl ?_
      exact RT _ _ _ _ dX6_papers_22 rfl
    · refine gw_aload_n C 24 dX6_papers_23 0 rfl rfl ?_
      refine gw_iload_n C 25 dX6_papers_24 1 rfl rfl ?_
      refine gw_bipush C 27 dX6_papers_25 (v := 10) (by decide) rfl ?_
      refine gw_cVp C 30 dX6_papers_27 rfl yv_X6_of lk_X6_54 [.int x1, .int (10 : Int32)] [] rfl (ct_X6_of (E := E) (l := ps_l X) x1 (10 : Int32) M ((hk.2.2 c5).2.2 c17).1) pm_recv rfl (Nat.le_of_ble_eq_true rfl) (Nat.le_of_ble_eq_true rfl) (Nat.le_of_ble_eq_true rfl) ?_
      refine gw_iconst C 31 dX6_papers_30 (v := (-1)) (by decide) rfl ?_
      refine gw_ic_neP C 38 34 dX6_papers_31 (by decide) rfl (fun c31 => ?_) (fun c31 => ?_)
      · refine gw_iconst C 35 dX6_papers_34 (v := 1) (by decide) rfl ?_
        refine gw_goto C 39 dX6_papers_35 (by decide) ?_
        exact bw_X6_papers_39 C RT M  x1 x2 (1 : Int32) (((hk.2.2 c5).2.2 c17).2.1 c31)
      · refine gw_iconst C 39 dX6_papers_38 (v := 0) (by decide) rfl ?_
        exact bw_X6_papers_39 C RT M  x1 x2 (0 : Int32) (((hk.2.2 c5).2.2 c17).2.2 c31)
theorem ct_X6_papers {E : ps_E} {l : Launch} (x1 : Int32) (x2 : Int32)  (M : ps_M) (hk : ok_X6_papers x1 x2 M) : ps_CI (pm_Y E) l yX6_papers cX6_papers 4 (some .int) 2 43 [.ref (ps_ad E 0), .int x1, .int x2] M (fv_X6_papers x1 x2 M, M) := ps_metI RX6 (by decide) rfl (Nat.le_of_ble_eq_true rfl) rfl (fun X _ C RT => bw_X6_papers C RT M x1 x2 hk)
def fv_X6_clerk (x1 : Int32) (x2 : Int32) (M : ps_M) : Int32 := if (fv_X6_isClerk x1 M) = 0 then ((-1 : Int32)) else (if x2 = (0 : Int32) then ((fv_X6_ofClerk x1 x2 M)) else (if x2 = (1 : Int32) then ((fv_X6_ofClerk x1 x2 M)) else (if x2 = (2 : Int32) then (if (fv_X6_ofClerk x1 (2 : Int32) M) = (-1 : Int32) then ((-5 : Int32)) else ((fv_X6_ofClerk x1 (2 : Int32) M))) else (if x2 = (3 : Int32) then ((fv_X6_ofClerk x1 x2 M)) else (if x2 = (4 : Int32) then ((fv_X6_ofClerk x1 x2 M)) else (if x2 = (5 : Int32) then (if (fv_X6_ofClerk x1 (5 : Int32) M) ≤ 0 then ((0 : Int32)) else ((1 : Int32))) else (if x2 = (6 : Int32) then (if (fv_X6_isFree x1 M) = 0 then ((-5 : Int32)) else ((fv_X6_aheadOf x1 M))) else ((-2 : Int32)))))))))
def ok_X6_clerk (x1 : Int32) (x2 : Int32) (M : ps_M) : Prop := (ok_X6_isClerk x1 M) ∧ (((fv_X6_isClerk x1 M) = 0 → True) ∧ (¬ ((fv_X6_isClerk x1 M) = 0) → ((x2 = (0 : Int32) → ((ok_X6_ofClerk x1 x2 M) ∧ True)) ∧ (¬ (x2 = (0 : Int32)) → ((x2 = (1 : Int32) → ((ok_X6_ofClerk x1 x2 M) ∧ True)) ∧ (¬ (x2 = (1 : Int32)) → ((x2 = (2 : Int32) → ((ok_X6_ofClerk x1 (2 : Int32) M) ∧ (((fv_X6_ofClerk x1 (2 : Int32) M) = (-1 : Int32) → True) ∧ (¬ ((fv_X6_ofClerk x1 (2 : Int32) M) = (-1 : Int32)) → ((ok_X6_ofClerk x1 (2 : Int32) M) ∧ True))))) ∧ (¬ (x2 = (2 : Int32)) → ((x2 = (3 : Int32) → ((ok_X6_ofClerk x1 x2 M) ∧ True)) ∧ (¬ (x2 = (3 : Int32)) → ((x2 = (4 : Int32) → ((ok_X6_ofClerk x1 x2 M) ∧ True)) ∧ (¬ (x2 = (4 : Int32)) → ((x2 = (5 : Int32) → ((ok_X6_ofClerk x1 (5 : Int32) M) ∧ True)) ∧ (¬ (x2 = (5 : Int32)) → ((x2 = (6 : Int32) → ((ok_X6_isFree x1 M) ∧ (((fv_X6_isFree x1 M) = 0 → True) ∧ (¬ ((fv_X6_isFree x1 M) = 0) → ((ok_X6_aheadOf x1 M) ∧ True))))) ∧ (¬ (x2 = (6 : Int32)) → True))))))))))))))))
set_option maxRecDepth 100000 in
set_option maxHeartbeats 4000000 in
theorem bw_X6_clerk {E : ps_E} {X : ps_X (Int32 × ps_M)} (C : ps_C (pm_Y E) X cX6_clerk RX6 (some .int) 3 68 3) (RT : ps_RI (pm_Y E) X cX6_clerk .int) (M : ps_M) (x1 : Int32) (x2 : Int32) (hk : ok_X6_clerk x1 x2 M) : ps_G (pm_Y E) X (fv_X6_clerk x1 x2 M, M) 0 [(0, .ref (ps_ad E 0)), (1, .int x1), (2, .int x2)] [] M := by
  unfold fv_X6_clerk
  unfold ok_X6_clerk at hk
  refine gw_aload_n C 1 dX6_clerk_0 0 rfl rfl ?_
  refine gw_iload_n C 2 dX6_clerk_1 1 rfl rfl ?_
  refine gw_cVp C 5 dX6_clerk_2 rfl yv_X6_isClerk lk_X6_68 [.int x1] [] rfl (ct_X6_isClerk (E := E) (l := ps_l X) x1 M hk.1) pm_recv rfl (Nat.le_of_ble_eq_true rfl) (Nat.le_of_ble_eq_true rfl) (Nat.le_of_ble_eq_true rfl) ?_
  refine gw_if_neP C 10 8 dX6_clerk_5 (by decide) rfl (fun c5 => ?_) (fun c5 => ?_)
  · refine gw_iconst C 9 dX6_clerk_8 (v := (-1)) (by decide) rfl ?_
    exact RT _ _ _ _ dX6_clerk_9 rfl
  · refine gw_iload_n C 11 dX6_clerk_10 2 rfl rfl ?_
    refine gw_caseP C (0 : Int32) (fun c11_0 => ?_) (fun c11_0 => ?_)
    · refine gw_tin C 52 (0) (41) c11_0 (by decide) dX6_clerk_11 (by decide) (by decide) (by decide +kernel) (by decide) ?_
      refine gw_aload_n C 53 dX6_clerk_52 0 rfl rfl ?_
      refine gw_iload_n C 54 dX6_clerk_53 1 rfl rfl ?_
      refine gw_iload_n C 55 dX6_clerk_54 2 rfl rfl ?_
      refine gw_cVp C 58 dX6_clerk_55 rfl yv_X6_ofClerk lk_X6_58 [.int x1, .int x2] [] rfl (ct_X6_ofClerk (E := E) (l := ps_l X) x1 x2 M ((hk.2.2 c5).1 c11_0).1) pm_recv rfl (Nat.le_of_ble_eq_true rfl) (Nat.le_of_ble_eq_true rfl) (Nat.le_of_ble_eq_true rfl) ?_
      exact RT _ _ _ _ dX6_clerk_58 rfl
    refine gw_caseP C (1 : Int32) (fun c11_1 => ?_) (fun c11_1 => ?_)
    · refine gw_tin C 52 (1) (41) c11_1 (by decide) dX6_clerk_11 (by decide) (by decide) (by decide +kernel) (by decide) ?_
      refine gw_aload_n C 53 dX6_clerk_52 0 rfl rfl ?_
      refine gw_iload_n C 54 dX6_clerk_53 1 rfl rfl ?_
      refine gw_iload_n C 55 dX6_clerk_54 2 rfl rfl ?_
      refine gw_cVp C 58 dX6_clerk_55 rfl yv_X6_ofClerk lk_X6_58 [.int x1, .int x2] [] rfl (ct_X6_ofClerk (E := E) (l := ps_l X) x1 x2 M (((hk.2.2 c5).2 c11_0).1 c11_1).1) pm_recv rfl (Nat.le_of_ble_eq_true rfl) (Nat.le_of_ble_eq_true rfl) (Nat.le_of_ble_eq_true rfl) ?_
      exact RT _ _ _ _ dX6_clerk_58 rfl
    refine gw_caseP C (2 : Int32) (fun c11_2 => ?_) (fun c11_2 => ?_)
    · refine gw_tin C 59 (2) (48) c11_2 (by decide) dX6_clerk_11 (by decide) (by decide) (by decide +kernel) (by decide) ?_
      refine gw_aload_n C 60 dX6_clerk_59 0 rfl rfl ?_
      refine gw_iload_n C 61 dX6_clerk_60 1 rfl rfl ?_
      refine gw_iconst C 62 dX6_clerk_61 (v := 2) (by decide) rfl ?_
      refine gw_cVp C 65 dX6_clerk_62 rfl yv_X6_ofClerk lk_X6_58 [.int x1, .int (2 : Int32)] [] rfl (ct_X6_ofClerk (E := E) (l := ps_l X) x1 (2 : Int32) M ((((hk.2.2 c5).2 c11_0).2 c11_1).1 c11_2).1) pm_recv rfl (Nat.le_of_ble_eq_true rfl) (Nat.le_of_ble_eq_true rfl) (Nat.le_of_ble_eq_true rfl) ?_
      refine gw_iconst C 66 dX6_clerk_65 (v := (-1)) (by decide) rfl ?_
      refine gw_ic_neP C 74 69 dX6_clerk_66 (by decide) rfl (fun c66 => ?_) (fun c66 => ?_)
      · refine gw_bipush C 71 dX6_clerk_69 (v := (-5)) (by decide) rfl ?_
        refine gw_goto C 80 dX6_clerk_71 (by decide) ?_
        exact RT _ _ _ _ dX6_clerk_80 rfl
      · refine gw_aload_n C 75 dX6_clerk_74 0 rfl rfl ?_
        refine gw_iload_n C 76 dX6_clerk_75 1 rfl rfl ?_
        refine gw_iconst C 77 dX6_clerk_76 (v := 2) (by decide) rfl ?_
        refine gw_cVp C 80 dX6_clerk_77 rfl yv_X6_ofClerk lk_X6_58 [.int x1, .int (2 : Int32)] [] rfl (ct_X6_ofClerk (E := E) (l := ps_l X) x1 (2 : Int32) M (((((hk.2.2 c5).2 c11_0).2 c11_1).1 c11_2).2.2 c66).1) pm_recv rfl (Nat.le_of_ble_eq_true rfl) (Nat.le_of_ble_eq_true rfl) (Nat.le_of_ble_eq_true rfl) ?_
        exact RT _ _ _ _ dX6_clerk_80 rfl
    refine gw_caseP C (3 : Int32) (fun c11_3 => ?_) (fun c11_3 => ?_)
    · refine gw_tin C 52 (3) (41) c11_3 (by decide) dX6_clerk_11 (by decide) (by decide) (by decide +kernel) (by decide) ?_
      refine gw_aload_n C 53 dX6_clerk_52 0 rfl rfl ?_
      refine gw_iload_n C 54 dX6_clerk_53 1 rfl rfl ?_
      refine gw_iload_n C 55 dX6_clerk_54 2 rfl rfl ?_
      refine gw_cVp C 58 dX6_clerk_55 rfl yv_X6_ofClerk lk_X6_58 [.int x1, .int x2] [] rfl (ct_X6_ofClerk (E := E) (l := ps_l X) x1 x2 M (((((hk.2.2 c5).2 c11_0).2 c11_1).2 c11_2).1 c11_3).1) pm_recv rfl (Nat.le_of_ble_eq_true rfl) (Nat.le_of_ble_eq_true rfl) (Nat.le_of_ble_eq_true rfl) ?_
      exact RT _ _ _ _ dX6_clerk_58 rfl
    refine gw_caseP C (4 : Int32) (fun c11_4 => ?_) (fun c11_4 => ?_)
    · refine gw_tin C 52 (4) (41) c11_4 (by decide) dX6_clerk_11 (by decide) (by decide) (by decide +kernel) (by decide) ?_
      refine gw_aload_n C 53 dX6_clerk_52 0 rfl rfl ?_
      refine gw_iload_n C 54 dX6_clerk_53 1 rfl rfl ?_
      refine gw_iload_n C 55 dX6_clerk_54 2 rfl rfl ?_
      refine gw_cVp C 58 dX6_clerk_55 rfl yv_X6_ofClerk lk_X6_58 [.int x1, .int x2] [] rfl (ct_X6_ofClerk (E := E) (l := ps_l X) x1 x2 M ((((((hk.2.2 c5).2 c11_0).2 c11_1).2 c11_2).2 c11_3).1 c11_4).1) pm_recv rfl (Nat.le_of_ble_eq_true rfl) (Nat.le_of_ble_eq_true rfl) (Nat.le_of_ble_eq_true rfl) ?_
      exact RT _ _ _ _ dX6_clerk_58 rfl
    refine gw_caseP C (5 : Int32) (fun c11_5 => ?_) (fun c11_5 => ?_)
    · refine gw_tin C 81 (5) (70) c11_5 (by decide) dX6_clerk_11 (by decide) (by decide) (by decide +kernel) (by decide) ?_
      refine gw_aload_n C 82 dX6_clerk_81 0 rfl rfl ?_
      refine gw_iload_n C 83 dX6_clerk_82 1 rfl rfl ?_
      refine gw_iconst C 84 dX6_clerk_83 (v := 5) (by decide) rfl ?_
      refine gw_cVp C 87 dX6_clerk_84 rfl yv_X6_ofClerk lk_X6_58 [.int x1, .int (5 : Int32)] [] rfl (ct_X6_ofClerk (E := E) (l := ps_l X) x1 (5 : Int32) M (((((((hk.2.2 c5).2 c11_0).2 c11_1).2 c11_2).2 c11_3).2 c11_4).1 c11_5).1) pm_recv rfl (Nat.le_of_ble_eq_true rfl) (Nat.le_of_ble_eq_true rfl) (Nat.le_of_ble_eq_true rfl) ?_
      refine gw_if_leP C 94 90 dX6_clerk_87 (by decide) rfl (fun c87 => ?_) (fun c87 => ?_)
      · refine gw_iconst C 95 dX6_clerk_94 (v := 0) (by decide) rfl ?_
        exact RT _ _ _ _ dX6_clerk_95 rfl
      · refine gw_iconst C 91 dX6_clerk_90 (v := 1) (by decide) rfl ?_
        refine gw_goto C 95 dX6_clerk_91 (by decide) ?_
        exact RT _ _ _ _ dX6_clerk_95 rfl
    refine gw_caseP C (6 : Int32) (fun c11_6 => ?_) (fun c11_6 => ?_)
    · refine gw_tin C 96 (6) (85) c11_6 (by decide) dX6_clerk_11 (by decide) (by decide) (by decide +kernel) (by decide) ?_
      refine gw_aload_n C 97 dX6_clerk_96 0 rfl rfl ?_
      refine gw_iload_n C 98 dX6_clerk_97 1 rfl rfl ?_
      refine gw_cVp C 101 dX6_clerk_98 rfl yv_X6_isFree lk_X6_61 [.int x1] [] rfl (ct_X6_isFree (E := E) (l := ps_l X) x1 M ((((((((hk.2.2 c5).2 c11_0).2 c11_1).2 c11_2).2 c11_3).2 c11_4).2 c11_5).1 c11_6).1) pm_recv rfl (Nat.le_of_ble_eq_true rfl) (Nat.le_of_ble_eq_true rfl) (Nat.le_of_ble_eq_true rfl) ?_
      refine gw_if_eqP C 112 104 dX6_clerk_101 (by decide) rfl (fun c101 => ?_) (fun c101 => ?_)
      · refine gw_bipush C 114 dX6_clerk_112 (v := (-5)) (by decide) rfl ?_
        exact RT _ _ _ _ dX6_clerk_114 rfl
      · refine gw_aload_n C 105 dX6_clerk_104 0 rfl rfl ?_
        refine gw_iload_n C 106 dX6_clerk_105 1 rfl rfl ?_
        refine gw_cVp C 109 dX6_clerk_106 rfl yv_X6_aheadOf lk_X6_64 [.int x1] [] rfl (ct_X6_aheadOf (E := E) (l := ps_l X) x1 M (((((((((hk.2.2 c5).2 c11_0).2 c11_1).2 c11_2).2 c11_3).2 c11_4).2 c11_5).1 c11_6).2.2 c101).1) pm_recv rfl (Nat.le_of_ble_eq_true rfl) (Nat.le_of_ble_eq_true rfl) (Nat.le_of_ble_eq_true rfl) ?_
        refine gw_goto C 114 dX6_clerk_109 (by decide) ?_
        exact RT _ _ _ _ dX6_clerk_114 rfl
    refine gw_tout C 115 dX6_clerk_11 (by have e0 := ps_ne_int c11_0 (z := 0) (by decide); have e1 := ps_ne_int c11_1 (z := 1) (by decide); have e2 := ps_ne_int c11_2 (z := 2) (by decide); have e3 := ps_ne_int c11_3 (z := 3) (by decide); have e4 := ps_ne_int c11_4 (z := 4) (by decide); have e5 := ps_ne_int c11_5 (z := 5) (by decide); have e6 := ps_ne_int c11_6 (z := 6) (by decide); omega) (by decide) ?_
    refine gw_bipush C 117 dX6_clerk_115 (v := (-2)) (by decide) rfl ?_
    exact RT _ _ _ _ dX6_clerk_117 rfl
theorem ct_X6_clerk {E : ps_E} {l : Launch} (x1 : Int32) (x2 : Int32)  (M : ps_M) (hk : ok_X6_clerk x1 x2 M) : ps_CI (pm_Y E) l yX6_clerk cX6_clerk 3 (some .int) 3 68 [.ref (ps_ad E 0), .int x1, .int x2] M (fv_X6_clerk x1 x2 M, M) := ps_metI RX6 (by decide) rfl (Nat.le_of_ble_eq_true rfl) rfl (fun X _ C RT => bw_X6_clerk C RT M x1 x2 hk)
def fv_X6_arrivals (x1 : Int32) (x2 : Int32) (M : ps_M) : Int32 := if (fv_X6_isStation x1 M) = 0 then ((-1 : Int32)) else (if (fv_X6_in x2 (0 : Int32) (14 : Int32) M) = 0 then ((-2 : Int32)) else ((fv_X6_of x1 ((12 : Int32) + x2) M)))
def ok_X6_arrivals (x1 : Int32) (x2 : Int32) (M : ps_M) : Prop := (ok_X6_isStation x1 M) ∧ (((fv_X6_isStation x1 M) = 0 → True) ∧ (¬ ((fv_X6_isStation x1 M) = 0) → ((ok_X6_in x2 (0 : Int32) (14 : Int32) M) ∧ (((fv_X6_in x2 (0 : Int32) (14 : Int32) M) = 0 → True) ∧ (¬ ((fv_X6_in x2 (0 : Int32) (14 : Int32) M) = 0) → ((ok_X6_of x1 ((12 : Int32) + x2) M) ∧ True))))))
set_option maxRecDepth 100000 in
set_option maxHeartbeats 4000000 in
theorem bw_X6_arrivals {E : ps_E} {X : ps_X (Int32 × ps_M)} (C : ps_C (pm_Y E) X cX6_arrivals RX6 (some .int) 2 43 3) (RT : ps_RI (pm_Y E) X cX6_arrivals .int) (M : ps_M) (x1 : Int32) (x2 : Int32) (hk : ok_X6_arrivals x1 x2 M) : ps_G (pm_Y E) X (fv_X6_arrivals x1 x2 M, M) 0 [(0, .ref (ps_ad E 0)), (1, .int x1), (2, .int x2)] [] M := by
  unfold fv_X6_arrivals
  unfold ok_X6_arrivals at hk
  refine gw_aload_n C 1 dX6_arrivals_0 0 rfl rfl ?_
  refine gw_iload_n C 2 dX6_arrivals_1 1 rfl rfl ?_
  refine gw_cVp C 5 dX6_arrivals_2 rfl yv_X6_isStation lk_X6_50 [.int x1] [] rfl (ct_X6_isStation (E := E) (l := ps_l X) x1 M hk.1) pm_recv rfl (Nat.le_of_ble_eq_true rfl) (Nat.le_of_ble_eq_true rfl) (Nat.le_of_ble_eq_true rfl) ?_
  refine gw_if_neP C 12 8 dX6_arrivals_5 (by decide) rfl (fun c5 => ?_) (fun c5 => ?_)
  · refine gw_iconst C 9 dX6_arrivals_8 (v := (-1)) (by decide) rfl ?_
    refine gw_goto C 36 dX6_arrivals_9 (by decide) ?_
    exact RT _ _ _ _ dX6_arrivals_36 rfl
  · refine gw_iload_n C 13 dX6_arrivals_12 2 rfl rfl ?_
    refine gw_iconst C 14 dX6_arrivals_13 (v := 0) (by decide) rfl ?_
    refine gw_bipush C 16 dX6_arrivals_14 (v := 14) (by decide) rfl ?_
    refine gw_cSp C 19 dX6_arrivals_16 rfl yv_X6_in lk_X6_36 [.int x2, .int (0 : Int32), .int (14 : Int32)] [] rfl (ct_X6_in (E := E) (l := ps_l X) x2 (0 : Int32) (14 : Int32) M (hk.2.2 c5).1) rfl (Nat.le_of_ble_eq_true rfl) (Nat.le_of_ble_eq_true rfl) (Nat.le_of_ble_eq_true rfl) ?_
    refine gw_if_neP C 27 22 dX6_arrivals_19 (by decide) rfl (fun c19 => ?_) (fun c19 => ?_)
    · refine gw_bipush C 24 dX6_arrivals_22 (v := (-2)) (by decide) rfl ?_
      refine gw_goto C 36 dX6_arrivals_24 (by decide) ?_
      exact RT _ _ _ _ dX6_arrivals_36 rfl
    · refine gw_aload_n C 28 dX6_arrivals_27 0 rfl rfl ?_
      refine gw_iload_n C 29 dX6_arrivals_28 1 rfl rfl ?_
      refine gw_bipush C 31 dX6_arrivals_29 (v := 12) (by decide) rfl ?_
      refine gw_iload_n C 32 dX6_arrivals_31 2 rfl rfl ?_
      refine gw_iadd C 33 dX6_arrivals_32 rfl ?_
      refine gw_cVp C 36 dX6_arrivals_33 rfl yv_X6_of lk_X6_54 [.int x1, .int ((12 : Int32) + x2)] [] rfl (ct_X6_of (E := E) (l := ps_l X) x1 ((12 : Int32) + x2) M ((hk.2.2 c5).2.2 c19).1) pm_recv rfl (Nat.le_of_ble_eq_true rfl) (Nat.le_of_ble_eq_true rfl) (Nat.le_of_ble_eq_true rfl) ?_
      exact RT _ _ _ _ dX6_arrivals_36 rfl
theorem ct_X6_arrivals {E : ps_E} {l : Launch} (x1 : Int32) (x2 : Int32)  (M : ps_M) (hk : ok_X6_arrivals x1 x2 M) : ps_CI (pm_Y E) l yX6_arrivals cX6_arrivals 3 (some .int) 2 43 [.ref (ps_ad E 0), .int x1, .int x2] M (fv_X6_arrivals x1 x2 M, M) := ps_metI RX6 (by decide) rfl (Nat.le_of_ble_eq_true rfl) rfl (fun X _ C RT => bw_X6_arrivals C RT M x1 x2 hk)
def fv_X6_free (x1 : Int32) (M : ps_M) : Int32 := if 0 ≤ x1 then ((fv_X6_freeAt x1 M)) else ((-2 : Int32))
def ok_X6_free (x1 : Int32) (M : ps_M) : Prop := (0 ≤ x1 → ((ok_X6_freeAt x1 M) ∧ True)) ∧ (¬ (0 ≤ x1) → True)
set_option maxRecDepth 100000 in
set_option maxHeartbeats 4000000 in
theorem bw_X6_free {E : ps_E} {X : ps_X (Int32 × ps_M)} (C : ps_C (pm_Y E) X cX6_free RX6 (some .int) 4 90 2) (RT : ps_RI (pm_Y E) X cX6_free .int) (M : ps_M) (x1 : Int32) (hk : ok_X6_free x1 M) : ps_G (pm_Y E) X (fv_X6_free x1 M, M) 0 [(0, .ref (ps_ad E 0)), (1, .int x1)] [] M := by
  unfold fv_X6_free
  unfold ok_X6_free at hk
  refine gw_iload_n C 1 dX6_free_0 1 rfl rfl ?_
  refine gw_if_geP C 9 4 dX6_free_1 (by decide) rfl (fun c1 => ?_) (fun c1 => ?_)
  · refine gw_aload_n C 10 dX6_free_9 0 rfl rfl ?_
    refine gw_iload_n C 11 dX6_free_10 1 rfl rfl ?_
    refine gw_cVp C 14 dX6_free_11 rfl yv_X6_freeAt lk_X6_81 [.int x1] [] rfl (ct_X6_freeAt (E := E) (l := ps_l X) x1 M (hk.1 c1).1) pm_recv rfl (Nat.le_of_ble_eq_true rfl) (Nat.le_of_ble_eq_true rfl) (Nat.le_of_ble_eq_true rfl) ?_
    exact RT _ _ _ _ dX6_free_14 rfl
  · refine gw_bipush C 6 dX6_free_4 (v := (-2)) (by decide) rfl ?_
    refine gw_goto C 14 dX6_free_6 (by decide) ?_
    exact RT _ _ _ _ dX6_free_14 rfl
theorem ct_X6_free {E : ps_E} {l : Launch} (x1 : Int32)  (M : ps_M) (hk : ok_X6_free x1 M) : ps_CI (pm_Y E) l yX6_free cX6_free 2 (some .int) 4 90 [.ref (ps_ad E 0), .int x1] M (fv_X6_free x1 M, M) := ps_metI RX6 (by decide) rfl (Nat.le_of_ble_eq_true rfl) rfl (fun X _ C RT => bw_X6_free C RT M x1 hk)
def fv_X6_busiest_79 (rec24 : Int32 → Int32 → Int32 → Int32 → ps_M → Int32) (x1 : Int32) (x2 : Int32) (x4 : Int32) (s1 : Int32) (s0 : Int32) (M : ps_M) : Int32 := rec24 x1 x2 (s0 + s1) (x4 + (1 : Int32)) M
def ok_X6_busiest_79 (rec24 : Int32 → Int32 → Int32 → Int32 → ps_M → Int32) (okr24 : Int32 → Int32 → Int32 → Int32 → ps_M → Prop) (x1 : Int32) (x2 : Int32) (x4 : Int32) (s1 : Int32) (s0 : Int32) (M : ps_M) : Prop := okr24 x1 x2 (s0 + s1) (x4 + (1 : Int32)) M
set_option maxRecDepth 100000 in
set_option maxHeartbeats 4000000 in
theorem bw_X6_busiest_79 {E : ps_E} {X : ps_X (Int32 × ps_M)} (C : ps_C (pm_Y E) X cX6_busiest RX6 (some .int) 1 22 5) (RT : ps_RI (pm_Y E) X cX6_busiest .int) (M : ps_M) (rec24 : Int32 → Int32 → Int32 → Int32 → ps_M → Int32) (okr24 : Int32 → Int32 → Int32 → Int32 → ps_M → Prop) (hr24 : ∀ (x1 : Int32) (x2 : Int32) (x3 : Int32) (x4 : Int32), okr24 x1 x2 x3 x4 M → ps_G (pm_Y E) X (rec24 x1 x2 x3 x4 M, M) 24 [(0, .ref (ps_ad E 0)), (1, .int x1), (2, .int x2), (3, .int x3), (4, .int x4)] [] M) (x1 : Int32) (x2 : Int32) (x4 : Int32) (s1 : Int32) (s0 : Int32) (hk : ok_X6_busiest_79 rec24 okr24 x1 x2 x4 s1 s0 M) : ps_G (pm_Y E) X (fv_X6_busiest_79 rec24 x1 x2 x4 s1 s0 M, M) 79 [(0, .ref (ps_ad E 0)), (1, .int x1), (2, .int x2), (4, .int x4)] [.int s1, .int s0] M := by
  unfold fv_X6_busiest_79
  unfold ok_X6_busiest_79 at hk
  refine gw_iadd C 80 dX6_busiest_79 rfl ?_
  refine gw_istore_n C 81 dX6_busiest_80 rfl [(0, .ref (ps_ad E 0)), (1, .int x1), (2, .int x2), (3, .int (s0 + s1)), (4, .int x4)] [1, 2, 3, 0, 4] (by decide) rfl ?_
  refine gw_iinc C 84 dX6_busiest_81 rfl (y := 1) (by decide) rfl 4 rfl [(0, .ref (ps_ad E 0)), (1, .int x1), (2, .int x2), (3, .int (s0 + s1)), (4, .int (x4 + (1 : Int32)))] [1, 2, 3, 4, 0] (by decide) rfl ?_
  refine gw_goto C 24 dX6_busiest_84 (by decide) ?_
  exact hr24 x1 x2 (s0 + s1) (x4 + (1 : Int32)) hk
def fv_X6_busiest_74 (rec24 : Int32 → Int32 → Int32 → Int32 → ps_M → Int32) (x1 : Int32) (x2 : Int32) (x4 : Int32) (s0 : Int32) (M : ps_M) : Int32 := fv_X6_busiest_79 rec24 x1 x2 x4 (1 : Int32) s0 M
def ok_X6_busiest_74 (rec24 : Int32 → Int32 → Int32 → Int32 → ps_M → Int32) (okr24 : Int32 → Int32 → Int32 → Int32 → ps_M → Prop) (x1 : Int32) (x2 : Int32) (x4 : Int32) (s0 : Int32) (M : ps_M) : Prop := ok_X6_busiest_79 rec24 okr24 x1 x2 x4 (1 : Int32) s0 M
set_option maxRecDepth 100000 in
set_option maxHeartbeats 4000000 in
theorem bw_X6_busiest_74 {E : ps_E} {X : ps_X (Int32 × ps_M)} (C : ps_C (pm_Y E) X cX6_busiest RX6 (some .int) 1 22 5) (RT : ps_RI (pm_Y E) X cX6_busiest .int) (M : ps_M) (rec24 : Int32 → Int32 → Int32 → Int32 → ps_M → Int32) (okr24 : Int32 → Int32 → Int32 → Int32 → ps_M → Prop) (hr24 : ∀ (x1 : Int32) (x2 : Int32) (x3 : Int32) (x4 : Int32), okr24 x1 x2 x3 x4 M → ps_G (pm_Y E) X (rec24 x1 x2 x3 x4 M, M) 24 [(0, .ref (ps_ad E 0)), (1, .int x1), (2, .int x2), (3, .int x3), (4, .int x4)] [] M) (x1 : Int32) (x2 : Int32) (x4 : Int32) (s0 : Int32) (hk : ok_X6_busiest_74 rec24 okr24 x1 x2 x4 s0 M) : ps_G (pm_Y E) X (fv_X6_busiest_74 rec24 x1 x2 x4 s0 M, M) 74 [(0, .ref (ps_ad E 0)), (1, .int x1), (2, .int x2), (4, .int x4)] [.int s0] M := by
  unfold fv_X6_busiest_74
  unfold ok_X6_busiest_74 at hk
  refine gw_iconst C 75 dX6_busiest_74 (v := 1) (by decide) rfl ?_
  refine gw_goto C 79 dX6_busiest_75 (by decide) ?_
  exact bw_X6_busiest_79 C RT M _ _ hr24 x1 x2 x4 (1 : Int32) s0 hk
def fv_X6_busiest_78 (rec24 : Int32 → Int32 → Int32 → Int32 → ps_M → Int32) (x1 : Int32) (x2 : Int32) (x4 : Int32) (s0 : Int32) (M : ps_M) : Int32 := fv_X6_busiest_79 rec24 x1 x2 x4 (0 : Int32) s0 M
def ok_X6_busiest_78 (rec24 : Int32 → Int32 → Int32 → Int32 → ps_M → Int32) (okr24 : Int32 → Int32 → Int32 → Int32 → ps_M → Prop) (x1 : Int32) (x2 : Int32) (x4 : Int32) (s0 : Int32) (M : ps_M) : Prop := ok_X6_busiest_79 rec24 okr24 x1 x2 x4 (0 : Int32) s0 M
set_option maxRecDepth 100000 in
set_option maxHeartbeats 4000000 in
theorem bw_X6_busiest_78 {E : ps_E} {X : ps_X (Int32 × ps_M)} (C : ps_C (pm_Y E) X cX6_busiest RX6 (some .int) 1 22 5) (RT : ps_RI (pm_Y E) X cX6_busiest .int) (M : ps_M) (rec24 : Int32 → Int32 → Int32 → Int32 → ps_M → Int32) (okr24 : Int32 → Int32 → Int32 → Int32 → ps_M → Prop) (hr24 : ∀ (x1 : Int32) (x2 : Int32) (x3 : Int32) (x4 : Int32), okr24 x1 x2 x3 x4 M → ps_G (pm_Y E) X (rec24 x1 x2 x3 x4 M, M) 24 [(0, .ref (ps_ad E 0)), (1, .int x1), (2, .int x2), (3, .int x3), (4, .int x4)] [] M) (x1 : Int32) (x2 : Int32) (x4 : Int32) (s0 : Int32) (hk : ok_X6_busiest_78 rec24 okr24 x1 x2 x4 s0 M) : ps_G (pm_Y E) X (fv_X6_busiest_78 rec24 x1 x2 x4 s0 M, M) 78 [(0, .ref (ps_ad E 0)), (1, .int x1), (2, .int x2), (4, .int x4)] [.int s0] M := by
  unfold fv_X6_busiest_78
  unfold ok_X6_busiest_78 at hk
  refine gw_iconst C 79 dX6_busiest_78 (v := 0) (by decide) rfl ?_
  exact bw_X6_busiest_79 C RT M _ _ hr24 x1 x2 x4 (0 : Int32) s0 hk
def fv_X6_busiest_24 (rec9 : Int32 → Int32 → ps_M → Int32) : Nat → Int32 → Int32 → Int32 → Int32 → ps_M → Int32
  | 0, _, _, _, _, M => 0
  | n + 1, x1, x2, x3, x4, M => if (M 1 ((1 : Int32)).toNatClampNeg) ≤ x4 then (if x3 = x1 then x2 else (rec9 x1 (x2 + (1 : Int32)) M)) else (if (fv_X6_of x2 (0 : Int32) M) < (fv_X6_of x4 (0 : Int32) M) then (fv_X6_busiest_74 (fun a1 a2 a3 a4 M => fv_X6_busiest_24 rec9 n a1 a2 a3 a4 M) x1 x2 x4 x3 M) else (if (fv_X6_of x4 (0 : Int32) M) = (fv_X6_of x2 (0 : Int32) M) then (if x2 ≤ x4 then (fv_X6_busiest_78 (fun a1 a2 a3 a4 M => fv_X6_busiest_24 rec9 n a1 a2 a3 a4 M) x1 x2 x4 x3 M) else (fv_X6_busiest_74 (fun a1 a2 a3 a4 M => fv_X6_busiest_24 rec9 n a1 a2 a3 a4 M) x1 x2 x4 x3 M)) else (fv_X6_busiest_78 (fun a1 a2 a3 a4 M => fv_X6_busiest_24 rec9 n a1 a2 a3 a4 M) x1 x2 x4 x3 M)))
theorem fv_X6_busiest_24_s (rec9 : Int32 → Int32 → ps_M → Int32) (n : Nat) (x1 : Int32) (x2 : Int32) (x3 : Int32) (x4 : Int32) (M : ps_M) : fv_X6_busiest_24 rec9 (n + 1) x1 x2 x3 x4 M = (if (M 1 ((1 : Int32)).toNatClampNeg) ≤ x4 then (if x3 = x1 then x2 else (rec9 x1 (x2 + (1 : Int32)) M)) else (if (fv_X6_of x2 (0 : Int32) M) < (fv_X6_of x4 (0 : Int32) M) then (fv_X6_busiest_74 (fun a1 a2 a3 a4 M => fv_X6_busiest_24 rec9 n a1 a2 a3 a4 M) x1 x2 x4 x3 M) else (if (fv_X6_of x4 (0 : Int32) M) = (fv_X6_of x2 (0 : Int32) M) then (if x2 ≤ x4 then (fv_X6_busiest_78 (fun a1 a2 a3 a4 M => fv_X6_busiest_24 rec9 n a1 a2 a3 a4 M) x1 x2 x4 x3 M) else (fv_X6_busiest_74 (fun a1 a2 a3 a4 M => fv_X6_busiest_24 rec9 n a1 a2 a3 a4 M) x1 x2 x4 x3 M)) else (fv_X6_busiest_78 (fun a1 a2 a3 a4 M => fv_X6_busiest_24 rec9 n a1 a2 a3 a4 M) x1 x2 x4 x3 M)))) := rfl
def ok_X6_busiest_24 (rec9 : Int32 → Int32 → ps_M → Int32) (okr9 : Int32 → Int32 → ps_M → Prop) : Nat → Int32 → Int32 → Int32 → Int32 → ps_M → Prop
  | 0, _, _, _, _, _ => False
  | n + 1, x1, x2, x3, x4, M => (vp_in (1 : Int32) 237) ∧ (((M 1 ((1 : Int32)).toNatClampNeg) ≤ x4 → ((x3 = x1 → True) ∧ (¬ (x3 = x1) → (okr9 x1 (x2 + (1 : Int32)) M)))) ∧ (¬ ((M 1 ((1 : Int32)).toNatClampNeg) ≤ x4) → ((ok_X6_of x4 (0 : Int32) M) ∧ ((ok_X6_of x2 (0 : Int32) M) ∧ (((fv_X6_of x2 (0 : Int32) M) < (fv_X6_of x4 (0 : Int32) M) → (ok_X6_busiest_74 (fun a1 a2 a3 a4 M => fv_X6_busiest_24 rec9 n a1 a2 a3 a4 M) (fun a1 a2 a3 a4 M => ok_X6_busiest_24 rec9 okr9 n a1 a2 a3 a4 M) x1 x2 x4 x3 M)) ∧ (¬ ((fv_X6_of x2 (0 : Int32) M) < (fv_X6_of x4 (0 : Int32) M)) → ((ok_X6_of x4 (0 : Int32) M) ∧ ((ok_X6_of x2 (0 : Int32) M) ∧ (((fv_X6_of x4 (0 : Int32) M) = (fv_X6_of x2 (0 : Int32) M) → ((x2 ≤ x4 → (ok_X6_busiest_78 (fun a1 a2 a3 a4 M => fv_X6_busiest_24 rec9 n a1 a2 a3 a4 M) (fun a1 a2 a3 a4 M => ok_X6_busiest_24 rec9 okr9 n a1 a2 a3 a4 M) x1 x2 x4 x3 M)) ∧ (¬ (x2 ≤ x4) → (ok_X6_busiest_74 (fun a1 a2 a3 a4 M => fv_X6_busiest_24 rec9 n a1 a2 a3 a4 M) (fun a1 a2 a3 a4 M => ok_X6_busiest_24 rec9 okr9 n a1 a2 a3 a4 M) x1 x2 x4 x3 M)))) ∧ (¬ ((fv_X6_of x4 (0 : Int32) M) = (fv_X6_of x2 (0 : Int32) M)) → (ok_X6_busiest_78 (fun a1 a2 a3 a4 M => fv_X6_busiest_24 rec9 n a1 a2 a3 a4 M) (fun a1 a2 a3 a4 M => ok_X6_busiest_24 rec9 okr9 n a1 a2 a3 a4 M) x1 x2 x4 x3 M)))))))))))
theorem ok_X6_busiest_24_s (rec9 : Int32 → Int32 → ps_M → Int32) (okr9 : Int32 → Int32 → ps_M → Prop) (n : Nat) (x1 : Int32) (x2 : Int32) (x3 : Int32) (x4 : Int32) (M : ps_M) : ok_X6_busiest_24 rec9 okr9 (n + 1) x1 x2 x3 x4 M = ((vp_in (1 : Int32) 237) ∧ (((M 1 ((1 : Int32)).toNatClampNeg) ≤ x4 → ((x3 = x1 → True) ∧ (¬ (x3 = x1) → (okr9 x1 (x2 + (1 : Int32)) M)))) ∧ (¬ ((M 1 ((1 : Int32)).toNatClampNeg) ≤ x4) → ((ok_X6_of x4 (0 : Int32) M) ∧ ((ok_X6_of x2 (0 : Int32) M) ∧ (((fv_X6_of x2 (0 : Int32) M) < (fv_X6_of x4 (0 : Int32) M) → (ok_X6_busiest_74 (fun a1 a2 a3 a4 M => fv_X6_busiest_24 rec9 n a1 a2 a3 a4 M) (fun a1 a2 a3 a4 M => ok_X6_busiest_24 rec9 okr9 n a1 a2 a3 a4 M) x1 x2 x4 x3 M)) ∧ (¬ ((fv_X6_of x2 (0 : Int32) M) < (fv_X6_of x4 (0 : Int32) M)) → ((ok_X6_of x4 (0 : Int32) M) ∧ ((ok_X6_of x2 (0 : Int32) M) ∧ (((fv_X6_of x4 (0 : Int32) M) = (fv_X6_of x2 (0 : Int32) M) → ((x2 ≤ x4 → (ok_X6_busiest_78 (fun a1 a2 a3 a4 M => fv_X6_busiest_24 rec9 n a1 a2 a3 a4 M) (fun a1 a2 a3 a4 M => ok_X6_busiest_24 rec9 okr9 n a1 a2 a3 a4 M) x1 x2 x4 x3 M)) ∧ (¬ (x2 ≤ x4) → (ok_X6_busiest_74 (fun a1 a2 a3 a4 M => fv_X6_busiest_24 rec9 n a1 a2 a3 a4 M) (fun a1 a2 a3 a4 M => ok_X6_busiest_24 rec9 okr9 n a1 a2 a3 a4 M) x1 x2 x4 x3 M)))) ∧ (¬ ((fv_X6_of x4 (0 : Int32) M) = (fv_X6_of x2 (0 : Int32) M)) → (ok_X6_busiest_78 (fun a1 a2 a3 a4 M => fv_X6_busiest_24 rec9 n a1 a2 a3 a4 M) (fun a1 a2 a3 a4 M => ok_X6_busiest_24 rec9 okr9 n a1 a2 a3 a4 M) x1 x2 x4 x3 M)))))))))))) := rfl
set_option maxRecDepth 100000 in
set_option maxHeartbeats 4000000 in
theorem bw_X6_busiest_24 {E : ps_E} {X : ps_X (Int32 × ps_M)} (C : ps_C (pm_Y E) X cX6_busiest RX6 (some .int) 1 22 5) (RT : ps_RI (pm_Y E) X cX6_busiest .int) (M : ps_M) (rec9 : Int32 → Int32 → ps_M → Int32) (okr9 : Int32 → Int32 → ps_M → Prop) (hr9 : ∀ (x1 : Int32) (x2 : Int32), okr9 x1 x2 M → ps_G (pm_Y E) X (rec9 x1 x2 M, M) 9 [(0, .ref (ps_ad E 0)), (1, .int x1), (2, .int x2)] [] M) : ∀ (n : Nat) (x1 : Int32) (x2 : Int32) (x3 : Int32) (x4 : Int32), ok_X6_busiest_24 rec9 okr9 n x1 x2 x3 x4 M → ps_G (pm_Y E) X (fv_X6_busiest_24 rec9 n x1 x2 x3 x4 M, M) 24 [(0, .ref (ps_ad E 0)), (1, .int x1), (2, .int x2), (3, .int x3), (4, .int x4)] [] M := by
  intro n
  induction n with
  | zero => intro x1 x2 x3 x4 h; exact h.elim
  | succ n ih =>
    intro x1 x2 x3 x4 hk
    rw [fv_X6_busiest_24_s]
    rw [ok_X6_busiest_24_s] at hk
    refine gw_iload C 26 dX6_busiest_24 4 rfl rfl ?_
    refine gw_aload_n C 27 dX6_busiest_26 0 rfl rfl ?_
    refine gf_X6_7 C 30 dX6_busiest_27 rfl ?_
    refine gw_iconst C 31 dX6_busiest_30 (v := 1) (by decide) rfl ?_
    refine gm_ld C 32 dX6_busiest_31 rfl (by decide) hk.1 ?_
    refine gw_ic_geP C 87 35 dX6_busiest_32 (by decide) rfl (fun c32 => ?_) (fun c32 => ?_)
    · refine gw_iload_n C 88 dX6_busiest_87 3 rfl rfl ?_
      refine gw_iload_n C 89 dX6_busiest_88 1 rfl rfl ?_
      refine gw_ic_neP C 94 92 dX6_busiest_89 (by decide) rfl (fun c89 => ?_) (fun c89 => ?_)
      · refine gw_iload_n C 93 dX6_busiest_92 2 rfl rfl ?_
        exact RT _ _ _ _ dX6_busiest_93 rfl
      · refine gw_iinc C 97 dX6_busiest_94 rfl (y := 1) (by decide) rfl 2 rfl [(0, .ref (ps_ad E 0)), (1, .int x1), (2, .int (x2 + (1 : Int32))), (3, .int x3), (4, .int x4)] [1, 2, 0, 3, 4] (by decide) rfl ?_
        refine gw_goto C 9 dX6_busiest_97 (by decide) ?_
        refine gw_sub C [(0, .ref (ps_ad E 0)), (1, .int x1), (2, .int (x2 + (1 : Int32)))] [0, 1, 2] rfl ?_
        exact hr9 x1 (x2 + (1 : Int32)) ((hk.2.1 c32).2 c89)
    · refine gw_iload_n C 36 dX6_busiest_35 3 rfl rfl ?_
      refine gw_aload_n C 37 dX6_busiest_36 0 rfl rfl ?_
      refine gw_iload C 39 dX6_busiest_37 4 rfl rfl ?_
      refine gw_iconst C 40 dX6_busiest_39 (v := 0) (by decide) rfl ?_
      refine gw_cVp C 43 dX6_busiest_40 rfl yv_X6_of lk_X6_54 [.int x4, .int (0 : Int32)] [.int x3] rfl (ct_X6_of (E := E) (l := ps_l X) x4 (0 : Int32) M (hk.2.2 c32).1) pm_recv rfl (Nat.le_of_ble_eq_true rfl) (Nat.le_of_ble_eq_true rfl) (Nat.le_of_ble_eq_true rfl) ?_
      refine gw_aload_n C 44 dX6_busiest_43 0 rfl rfl ?_
      refine gw_iload_n C 45 dX6_busiest_44 2 rfl rfl ?_
      refine gw_iconst C 46 dX6_busiest_45 (v := 0) (by decide) rfl ?_
      refine gw_cVp C 49 dX6_busiest_46 rfl yv_X6_of lk_X6_54 [.int x2, .int (0 : Int32)] [.int (fv_X6_of x4 (0 : Int32) M), .int x3] rfl (ct_X6_of (E := E) (l := ps_l X) x2 (0 : Int32) M (hk.2.2 c32).2.1) pm_recv rfl (Nat.le_of_ble_eq_true rfl) (Nat.le_of_ble_eq_true rfl) (Nat.le_of_ble_eq_true rfl) ?_
      refine gw_ic_gtP C 74 52 dX6_busiest_49 (by decide) rfl (fun c49 => ?_) (fun c49 => ?_)
      · refine gw_sub C [(0, .ref (ps_ad E 0)), (1, .int x1), (2, .int x2), (4, .int x4)] [0, 1, 2, 4] rfl ?_
        exact bw_X6_busiest_74 C RT M _ _ (fun a1 a2 a3 a4  h => ih a1 a2 a3 a4  h) x1 x2 x4 x3 ((hk.2.2 c32).2.2.1 c49)
      · refine gw_aload_n C 53 dX6_busiest_52 0 rfl rfl ?_
        refine gw_iload C 55 dX6_busiest_53 4 rfl rfl ?_
        refine gw_iconst C 56 dX6_busiest_55 (v := 0) (by decide) rfl ?_
        refine gw_cVp C 59 dX6_busiest_56 rfl yv_X6_of lk_X6_54 [.int x4, .int (0 : Int32)] [.int x3] rfl (ct_X6_of (E := E) (l := ps_l X) x4 (0 : Int32) M ((hk.2.2 c32).2.2.2 c49).1) pm_recv rfl (Nat.le_of_ble_eq_true rfl) (Nat.le_of_ble_eq_true rfl) (Nat.le_of_ble_eq_true rfl) ?_
        refine gw_aload_n C 60 dX6_busiest_59 0 rfl rfl ?_
        refine gw_iload_n C 61 dX6_busiest_60 2 rfl rfl ?_
        refine gw_iconst C 62 dX6_busiest_61 (v := 0) (by decide) rfl ?_
        refine gw_cVp C 65 dX6_busiest_62 rfl yv_X6_of lk_X6_54 [.int x2, .int (0 : Int32)] [.int (fv_X6_of x4 (0 : Int32) M), .int x3] rfl (ct_X6_of (E := E) (l := ps_l X) x2 (0 : Int32) M ((hk.2.2 c32).2.2.2 c49).2.1) pm_recv rfl (Nat.le_of_ble_eq_true rfl) (Nat.le_of_ble_eq_true rfl) (Nat.le_of_ble_eq_true rfl) ?_
        refine gw_ic_neP C 78 68 dX6_busiest_65 (by decide) rfl (fun c65 => ?_) (fun c65 => ?_)
        · refine gw_iload C 70 dX6_busiest_68 4 rfl rfl ?_
          refine gw_iload_n C 71 dX6_busiest_70 2 rfl rfl ?_
          refine gw_ic_geP C 78 74 dX6_busiest_71 (by decide) rfl (fun c71 => ?_) (fun c71 => ?_)
          · refine gw_sub C [(0, .ref (ps_ad E 0)), (1, .int x1), (2, .int x2), (4, .int x4)] [0, 1, 2, 4] rfl ?_
            exact bw_X6_busiest_78 C RT M _ _ (fun a1 a2 a3 a4  h => ih a1 a2 a3 a4  h) x1 x2 x4 x3 ((((hk.2.2 c32).2.2.2 c49).2.2.1 c65).1 c71)
          · refine gw_sub C [(0, .ref (ps_ad E 0)), (1, .int x1), (2, .int x2), (4, .int x4)] [0, 1, 2, 4] rfl ?_
            exact bw_X6_busiest_74 C RT M _ _ (fun a1 a2 a3 a4  h => ih a1 a2 a3 a4  h) x1 x2 x4 x3 ((((hk.2.2 c32).2.2.2 c49).2.2.1 c65).2 c71)
        · refine gw_sub C [(0, .ref (ps_ad E 0)), (1, .int x1), (2, .int x2), (4, .int x4)] [0, 1, 2, 4] rfl ?_
          exact bw_X6_busiest_78 C RT M _ _ (fun a1 a2 a3 a4  h => ih a1 a2 a3 a4  h) x1 x2 x4 x3 (((hk.2.2 c32).2.2.2 c49).2.2.2 c65)
def fv_X6_busiest_9 : Nat → Int32 → Int32 → ps_M → Int32
  | 0, _, _, M => 0
  | n + 1, x1, x2, M => if (M 1 ((1 : Int32)).toNatClampNeg) ≤ x2 then ((-5 : Int32)) else (fv_X6_busiest_24 (fun a1 a2 M => fv_X6_busiest_9 n a1 a2 M) ps_FU x1 x2 (0 : Int32) (0 : Int32) M)
theorem fv_X6_busiest_9_s (n : Nat) (x1 : Int32) (x2 : Int32) (M : ps_M) : fv_X6_busiest_9 (n + 1) x1 x2 M = (if (M 1 ((1 : Int32)).toNatClampNeg) ≤ x2 then ((-5 : Int32)) else (fv_X6_busiest_24 (fun a1 a2 M => fv_X6_busiest_9 n a1 a2 M) ps_FU x1 x2 (0 : Int32) (0 : Int32) M)) := rfl
def ok_X6_busiest_9 : Nat → Int32 → Int32 → ps_M → Prop
  | 0, _, _, _ => False
  | n + 1, x1, x2, M => (vp_in (1 : Int32) 237) ∧ (((M 1 ((1 : Int32)).toNatClampNeg) ≤ x2 → True) ∧ (¬ ((M 1 ((1 : Int32)).toNatClampNeg) ≤ x2) → (ok_X6_busiest_24 (fun a1 a2 M => fv_X6_busiest_9 n a1 a2 M) (fun a1 a2 M => ok_X6_busiest_9 n a1 a2 M) ps_FU x1 x2 (0 : Int32) (0 : Int32) M)))
theorem ok_X6_busiest_9_s (n : Nat) (x1 : Int32) (x2 : Int32) (M : ps_M) : ok_X6_busiest_9 (n + 1) x1 x2 M = ((vp_in (1 : Int32) 237) ∧ (((M 1 ((1 : Int32)).toNatClampNeg) ≤ x2 → True) ∧ (¬ ((M 1 ((1 : Int32)).toNatClampNeg) ≤ x2) → (ok_X6_busiest_24 (fun a1 a2 M => fv_X6_busiest_9 n a1 a2 M) (fun a1 a2 M => ok_X6_busiest_9 n a1 a2 M) ps_FU x1 x2 (0 : Int32) (0 : Int32) M)))) := rfl
set_option maxRecDepth 100000 in
set_option maxHeartbeats 4000000 in
theorem bw_X6_busiest_9 {E : ps_E} {X : ps_X (Int32 × ps_M)} (C : ps_C (pm_Y E) X cX6_busiest RX6 (some .int) 1 22 5) (RT : ps_RI (pm_Y E) X cX6_busiest .int) (M : ps_M) : ∀ (n : Nat) (x1 : Int32) (x2 : Int32), ok_X6_busiest_9 n x1 x2 M → ps_G (pm_Y E) X (fv_X6_busiest_9 n x1 x2 M, M) 9 [(0, .ref (ps_ad E 0)), (1, .int x1), (2, .int x2)] [] M := by
  intro n
  induction n with
  | zero => intro x1 x2 h; exact h.elim
  | succ n ih =>
    intro x1 x2 hk
    rw [fv_X6_busiest_9_s]
    rw [ok_X6_busiest_9_s] at hk
    refine gw_iload_n C 10 dX6_busiest_9 2 rfl rfl ?_
    refine gw_aload_n C 11 dX6_busiest_10 0 rfl rfl ?_
    refine gf_X6_7 C 14 dX6_busiest_11 rfl ?_
    refine gw_iconst C 15 dX6_busiest_14 (v := 1) (by decide) rfl ?_
    refine gm_ld C 16 dX6_busiest_15 rfl (by decide) hk.1 ?_
    refine gw_ic_geP C 100 19 dX6_busiest_16 (by decide) rfl (fun c16 => ?_) (fun c16 => ?_)
    · refine gw_bipush C 102 dX6_busiest_100 (v := (-5)) (by decide) rfl ?_
      exact RT _ _ _ _ dX6_busiest_102 rfl
    · refine gw_iconst C 20 dX6_busiest_19 (v := 0) (by decide) rfl ?_
      refine gw_istore_n C 21 dX6_busiest_20 rfl [(0, .ref (ps_ad E 0)), (1, .int x1), (2, .int x2), (3, .int (0 : Int32))] [1, 2, 3, 0] (by decide) rfl ?_
      refine gw_iconst C 22 dX6_busiest_21 (v := 0) (by decide) rfl ?_
      refine gw_istore C 24 dX6_busiest_22 rfl [(0, .ref (ps_ad E 0)), (1, .int x1), (2, .int x2), (3, .int (0 : Int32)), (4, .int (0 : Int32))] [1, 2, 3, 4, 0] (by decide) rfl ?_
      exact bw_X6_busiest_24 C RT M _ _ (fun a1 a2  h => ih a1 a2  h) ps_FU x1 x2 (0 : Int32) (0 : Int32) (hk.2.2 c16)
def fv_X6_busiest (x1 : Int32) (M : ps_M) : Int32 := if 0 ≤ x1 then (fv_X6_busiest_9 ps_FU x1 (0 : Int32) M) else ((-2 : Int32))
def ok_X6_busiest (x1 : Int32) (M : ps_M) : Prop := (0 ≤ x1 → (ok_X6_busiest_9 ps_FU x1 (0 : Int32) M)) ∧ (¬ (0 ≤ x1) → True)
set_option maxRecDepth 100000 in
set_option maxHeartbeats 4000000 in
theorem bw_X6_busiest {E : ps_E} {X : ps_X (Int32 × ps_M)} (C : ps_C (pm_Y E) X cX6_busiest RX6 (some .int) 1 22 5) (RT : ps_RI (pm_Y E) X cX6_busiest .int) (M : ps_M) (x1 : Int32) (hk : ok_X6_busiest x1 M) : ps_G (pm_Y E) X (fv_X6_busiest x1 M, M) 0 [(0, .ref (ps_ad E 0)), (1, .int x1)] [] M := by
  unfold fv_X6_busiest
  unfold ok_X6_busiest at hk
  refine gw_iload_n C 1 dX6_busiest_0 1 rfl rfl ?_
  refine gw_if_geP C 7 4 dX6_busiest_1 (by decide) rfl (fun c1 => ?_) (fun c1 => ?_)
  · refine gw_iconst C 8 dX6_busiest_7 (v := 0) (by decide) rfl ?_
    refine gw_istore_n C 9 dX6_busiest_8 rfl [(0, .ref (ps_ad E 0)), (1, .int x1), (2, .int (0 : Int32))] [1, 2, 0] (by decide) rfl ?_
    exact bw_X6_busiest_9 C RT M  ps_FU x1 (0 : Int32) (hk.1 c1)
  · refine gw_bipush C 6 dX6_busiest_4 (v := (-2)) (by decide) rfl ?_
    exact RT _ _ _ _ dX6_busiest_6 rfl
theorem ct_X6_busiest {E : ps_E} {l : Launch} (x1 : Int32)  (M : ps_M) (hk : ok_X6_busiest x1 M) : ps_CI (pm_Y E) l yX6_busiest cX6_busiest 5 (some .int) 1 22 [.ref (ps_ad E 0), .int x1] M (fv_X6_busiest x1 M, M) := ps_metI RX6 (by decide) rfl (Nat.le_of_ble_eq_true rfl) rfl (fun X _ C RT => bw_X6_busiest C RT M x1 hk)
def fv_X6_queueIn (x1 : Int32) (x2 : Int32) (M : ps_M) : Int32 × ps_M := if (fv_X6_isStation x1 M) = 0 then (((-1 : Int32), M)) else (if (fv_X6_in x2 (0 : Int32) (18 : Int32) M) = 0 then (((-2 : Int32), M)) else (if ((M 1 ((0 : Int32)).toNatClampNeg) + x2) ≤ (18 : Int32) then (((fv_X6_of x1 (0 : Int32) ((fv_X6_hoursPass x2 (fv_X6_copies 1 (0 : Int32) 4 (0 : Int32) M)).2)), (fv_X6_copies 4 (0 : Int32) 1 (0 : Int32) ((fv_X6_hoursPass x2 (fv_X6_copies 1 (0 : Int32) 4 (0 : Int32) M)).2)))) else (((-4 : Int32), M))))
def ok_X6_queueIn (x1 : Int32) (x2 : Int32) (M : ps_M) : Prop := (ok_X6_isStation x1 M) ∧ (((fv_X6_isStation x1 M) = 0 → True) ∧ (¬ ((fv_X6_isStation x1 M) = 0) → ((ok_X6_in x2 (0 : Int32) (18 : Int32) M) ∧ (((fv_X6_in x2 (0 : Int32) (18 : Int32) M) = 0 → True) ∧ (¬ ((fv_X6_in x2 (0 : Int32) (18 : Int32) M) = 0) → ((vp_in (0 : Int32) 237) ∧ ((((M 1 ((0 : Int32)).toNatClampNeg) + x2) ≤ (18 : Int32) → ((ok_X6_copies 1 (0 : Int32) 4 (0 : Int32) M) ∧ ((ok_X6_hoursPass x2 (fv_X6_copies 1 (0 : Int32) 4 (0 : Int32) M)) ∧ ((ok_X6_of x1 (0 : Int32) ((fv_X6_hoursPass x2 (fv_X6_copies 1 (0 : Int32) 4 (0 : Int32) M)).2)) ∧ ((ok_X6_copies 4 (0 : Int32) 1 (0 : Int32) ((fv_X6_hoursPass x2 (fv_X6_copies 1 (0 : Int32) 4 (0 : Int32) M)).2)) ∧ True))))) ∧ (¬ (((M 1 ((0 : Int32)).toNatClampNeg) + x2) ≤ (18 : Int32)) → True))))))))
set_option maxRecDepth 100000 in
set_option maxHeartbeats 4000000 in
theorem bw_X6_queueIn {E : ps_E} {X : ps_X (Int32 × ps_M)} (C : ps_C (pm_Y E) X cX6_queueIn RX6 (some .int) 7 160 5) (RT : ps_RI (pm_Y E) X cX6_queueIn .int) (x1 : Int32) (x2 : Int32) (M : ps_M) (hk : ok_X6_queueIn x1 x2 M) : ps_G (pm_Y E) X (fv_X6_queueIn x1 x2 M) 0 [(0, .ref (ps_ad E 0)), (1, .int x1), (2, .int x2)] [] M := by
  unfold fv_X6_queueIn
  unfold ok_X6_queueIn at hk
  refine gw_aload_n C 1 dX6_queueIn_0 0 rfl rfl ?_
  refine gw_iload_n C 2 dX6_queueIn_1 1 rfl rfl ?_
  refine gw_cVp C 5 dX6_queueIn_2 rfl yv_X6_isStation lk_X6_50 [.int x1] [] rfl (ct_X6_isStation (E := E) (l := ps_l X) x1 M hk.1) pm_recv rfl (Nat.le_of_ble_eq_true rfl) (Nat.le_of_ble_eq_true rfl) (Nat.le_of_ble_eq_true rfl) ?_
  refine gw_if_ne C 10 8 dX6_queueIn_5 (by decide) rfl (fun c5 => ?_) (fun c5 => ?_)
  · refine gw_iconst C 9 dX6_queueIn_8 (v := (-1)) (by decide) rfl ?_
    exact RT _ _ _ _ dX6_queueIn_9 rfl
  · refine gw_iload_n C 11 dX6_queueIn_10 2 rfl rfl ?_
    refine gw_iconst C 12 dX6_queueIn_11 (v := 0) (by decide) rfl ?_
    refine gw_bipush C 14 dX6_queueIn_12 (v := 18) (by decide) rfl ?_
    refine gw_cSp C 17 dX6_queueIn_14 rfl yv_X6_in lk_X6_36 [.int x2, .int (0 : Int32), .int (18 : Int32)] [] rfl (ct_X6_in (E := E) (l := ps_l X) x2 (0 : Int32) (18 : Int32) M (hk.2.2 c5).1) rfl (Nat.le_of_ble_eq_true rfl) (Nat.le_of_ble_eq_true rfl) (Nat.le_of_ble_eq_true rfl) ?_
    refine gw_if_ne C 23 20 dX6_queueIn_17 (by decide) rfl (fun c17 => ?_) (fun c17 => ?_)
    · refine gw_bipush C 22 dX6_queueIn_20 (v := (-2)) (by decide) rfl ?_
      exact RT _ _ _ _ dX6_queueIn_22 rfl
    · refine gw_aload_n C 24 dX6_queueIn_23 0 rfl rfl ?_
      refine gf_X6_7 C 27 dX6_queueIn_24 rfl ?_
      refine gw_iconst C 28 dX6_queueIn_27 (v := 0) (by decide) rfl ?_
      refine gm_ld C 29 dX6_queueIn_28 rfl (by decide) ((hk.2.2 c5).2.2 c17).1 ?_
      refine gw_iload_n C 30 dX6_queueIn_29 2 rfl rfl ?_
      refine gw_iadd C 31 dX6_queueIn_30 rfl ?_
      refine gw_bipush C 33 dX6_queueIn_31 (v := 18) (by decide) rfl ?_
      refine gw_ic_le C 39 36 dX6_queueIn_33 (by decide) rfl (fun c33 => ?_) (fun c33 => ?_)
      · refine gw_aload_n C 40 dX6_queueIn_39 0 rfl rfl ?_
        refine gf_X6_7 C 43 dX6_queueIn_40 rfl ?_
        refine gw_iconst C 44 dX6_queueIn_43 (v := 0) (by decide) rfl ?_
        refine gw_aload_n C 45 dX6_queueIn_44 0 rfl rfl ?_
        refine gf_X6_19 C 48 dX6_queueIn_45 rfl ?_
        refine gw_iconst C 49 dX6_queueIn_48 (v := 0) (by decide) rfl ?_
        refine gw_cSv C 52 dX6_queueIn_49 rfl yv_X6_copies lk_X6_32 [.ref (ps_ad E 1), .int (0 : Int32), .ref (ps_ad E 4), .int (0 : Int32)] [] rfl (ct_X6_copies (E := E) (l := ps_l X) 1 (0 : Int32) 4 (0 : Int32) (by decide) (by decide) M (((hk.2.2 c5).2.2 c17).2.1 c33).1) rfl (Nat.le_of_ble_eq_true rfl) (Nat.le_of_ble_eq_true rfl) (Nat.le_of_ble_eq_true rfl) ?_
        refine gw_aload_n C 53 dX6_queueIn_52 0 rfl rfl ?_
        refine gw_iload_n C 54 dX6_queueIn_53 2 rfl rfl ?_
        refine gw_cVi C 57 dX6_queueIn_54 rfl yv_X6_hoursPass lk_X6_94 [.int x2] [] rfl (ct_X6_hoursPass (E := E) (l := ps_l X) x2 (fv_X6_copies 1 (0 : Int32) 4 (0 : Int32) M) (((hk.2.2 c5).2.2 c17).2.1 c33).2.1) pm_recv rfl (Nat.le_of_ble_eq_true rfl) (Nat.le_of_ble_eq_true rfl) (Nat.le_of_ble_eq_true rfl) ?_
        refine gw_istore_n C 58 dX6_queueIn_57 rfl [(0, .ref (ps_ad E 0)), (1, .int x1), (2, .int x2), (3, .int ((fv_X6_hoursPass x2 (fv_X6_copies 1 (0 : Int32) 4 (0 : Int32) M)).1))] [1, 2, 3, 0] (by decide) rfl ?_
        refine gw_aload_n C 59 dX6_queueIn_58 0 rfl rfl ?_
        refine gw_iload_n C 60 dX6_queueIn_59 1 rfl rfl ?_
        refine gw_iconst C 61 dX6_queueIn_60 (v := 0) (by decide) rfl ?_
        refine gw_cVp C 64 dX6_queueIn_61 rfl yv_X6_of lk_X6_54 [.int x1, .int (0 : Int32)] [] rfl (ct_X6_of (E := E) (l := ps_l X) x1 (0 : Int32) ((fv_X6_hoursPass x2 (fv_X6_copies 1 (0 : Int32) 4 (0 : Int32) M)).2) (((hk.2.2 c5).2.2 c17).2.1 c33).2.2.1) pm_recv rfl (Nat.le_of_ble_eq_true rfl) (Nat.le_of_ble_eq_true rfl) (Nat.le_of_ble_eq_true rfl) ?_
        refine gw_istore C 66 dX6_queueIn_64 rfl [(0, .ref (ps_ad E 0)), (1, .int x1), (2, .int x2), (3, .int ((fv_X6_hoursPass x2 (fv_X6_copies 1 (0 : Int32) 4 (0 : Int32) M)).1)), (4, .int (fv_X6_of x1 (0 : Int32) ((fv_X6_hoursPass x2 (fv_X6_copies 1 (0 : Int32) 4 (0 : Int32) M)).2)))] [1, 2, 3, 4, 0] (by decide) rfl ?_
        refine gw_aload_n C 67 dX6_queueIn_66 0 rfl rfl ?_
        refine gf_X6_19 C 70 dX6_queueIn_67 rfl ?_
        refine gw_iconst C 71 dX6_queueIn_70 (v := 0) (by decide) rfl ?_
        refine gw_aload_n C 72 dX6_queueIn_71 0 rfl rfl ?_
        refine gf_X6_7 C 75 dX6_queueIn_72 rfl ?_
        refine gw_iconst C 76 dX6_queueIn_75 (v := 0) (by decide) rfl ?_
        refine gw_cSv C 79 dX6_queueIn_76 rfl yv_X6_copies lk_X6_32 [.ref (ps_ad E 4), .int (0 : Int32), .ref (ps_ad E 1), .int (0 : Int32)] [] rfl (ct_X6_copies (E := E) (l := ps_l X) 4 (0 : Int32) 1 (0 : Int32) (by decide) (by decide) ((fv_X6_hoursPass x2 (fv_X6_copies 1 (0 : Int32) 4 (0 : Int32) M)).2) (((hk.2.2 c5).2.2 c17).2.1 c33).2.2.2.1) rfl (Nat.le_of_ble_eq_true rfl) (Nat.le_of_ble_eq_true rfl) (Nat.le_of_ble_eq_true rfl) ?_
        refine gw_iload C 81 dX6_queueIn_79 4 rfl rfl ?_
        exact RT _ _ _ _ dX6_queueIn_81 rfl
      · refine gw_bipush C 38 dX6_queueIn_36 (v := (-4)) (by decide) rfl ?_
        exact RT _ _ _ _ dX6_queueIn_38 rfl
theorem ct_X6_queueIn {E : ps_E} {l : Launch} (x1 : Int32) (x2 : Int32)  (M : ps_M) (hk : ok_X6_queueIn x1 x2 M) : ps_CI (pm_Y E) l yX6_queueIn cX6_queueIn 5 (some .int) 7 160 [.ref (ps_ad E 0), .int x1, .int x2] M (fv_X6_queueIn x1 x2 M) := ps_metI RX6 (by decide) rfl (Nat.le_of_ble_eq_true rfl) rfl (fun X _ C RT => bw_X6_queueIn C RT x1 x2 M hk)
def fv_X6_lacks_58 (x1 : Int32) (x2 : Int32) (x3 : Int32) (s0 : Int32) (M : ps_M) : Int32 × ps_M := if 0 ≤ (((fv_X6_of x1 (2 : Int32) M) - x3) - x2) then (((((fv_X6_of x1 (2 : Int32) M) - x3) - x2), (fv_X6_copies 4 (0 : Int32) 1 (0 : Int32) M))) else (((0 : Int32), (fv_X6_copies 4 (0 : Int32) 1 (0 : Int32) M)))
def ok_X6_lacks_58 (x1 : Int32) (x2 : Int32) (x3 : Int32) (s0 : Int32) (M : ps_M) : Prop := (ok_X6_of x1 (2 : Int32) M) ∧ ((ok_X6_copies 4 (0 : Int32) 1 (0 : Int32) M) ∧ True)
set_option maxRecDepth 100000 in
set_option maxHeartbeats 4000000 in
theorem bw_X6_lacks_58 {E : ps_E} {X : ps_X (Int32 × ps_M)} (C : ps_C (pm_Y E) X cX6_lacks RX6 (some .int) 7 160 6) (RT : ps_RI (pm_Y E) X cX6_lacks .int) (x1 : Int32) (x2 : Int32) (x3 : Int32) (s0 : Int32) (M : ps_M) (hk : ok_X6_lacks_58 x1 x2 x3 s0 M) : ps_G (pm_Y E) X (fv_X6_lacks_58 x1 x2 x3 s0 M) 58 [(0, .ref (ps_ad E 0)), (1, .int x1), (2, .int x2), (3, .int x3)] [.int s0] M := by
  unfold fv_X6_lacks_58
  unfold ok_X6_lacks_58 at hk
  refine gw_istore C 60 dX6_lacks_58 rfl [(0, .ref (ps_ad E 0)), (1, .int x1), (2, .int x2), (3, .int x3), (4, .int s0)] [1, 2, 3, 4, 0] (by decide) rfl ?_
  refine gw_aload_n C 61 dX6_lacks_60 0 rfl rfl ?_
  refine gw_iload_n C 62 dX6_lacks_61 1 rfl rfl ?_
  refine gw_iconst C 63 dX6_lacks_62 (v := 2) (by decide) rfl ?_
  refine gw_cVp C 66 dX6_lacks_63 rfl yv_X6_of lk_X6_54 [.int x1, .int (2 : Int32)] [] rfl (ct_X6_of (E := E) (l := ps_l X) x1 (2 : Int32) M hk.1) pm_recv rfl (Nat.le_of_ble_eq_true rfl) (Nat.le_of_ble_eq_true rfl) (Nat.le_of_ble_eq_true rfl) ?_
  refine gw_iload_n C 67 dX6_lacks_66 3 rfl rfl ?_
  refine gw_isub C 68 dX6_lacks_67 rfl ?_
  refine gw_iload_n C 69 dX6_lacks_68 2 rfl rfl ?_
  refine gw_isub C 70 dX6_lacks_69 rfl ?_
  refine gw_istore C 72 dX6_lacks_70 rfl [(0, .ref (ps_ad E 0)), (1, .int x1), (2, .int x2), (3, .int x3), (4, .int s0), (5, .int (((fv_X6_of x1 (2 : Int32) M) - x3) - x2))] [1, 2, 3, 4, 5, 0] (by decide) rfl ?_
  refine gw_aload_n C 73 dX6_lacks_72 0 rfl rfl ?_
  refine gf_X6_19 C 76 dX6_lacks_73 rfl ?_
  refine gw_iconst C 77 dX6_lacks_76 (v := 0) (by decide) rfl ?_
  refine gw_aload_n C 78 dX6_lacks_77 0 rfl rfl ?_
  refine gf_X6_7 C 81 dX6_lacks_78 rfl ?_
  refine gw_iconst C 82 dX6_lacks_81 (v := 0) (by decide) rfl ?_
  refine gw_cSv C 85 dX6_lacks_82 rfl yv_X6_copies lk_X6_32 [.ref (ps_ad E 4), .int (0 : Int32), .ref (ps_ad E 1), .int (0 : Int32)] [] rfl (ct_X6_copies (E := E) (l := ps_l X) 4 (0 : Int32) 1 (0 : Int32) (by decide) (by decide) M hk.2.1) rfl (Nat.le_of_ble_eq_true rfl) (Nat.le_of_ble_eq_true rfl) (Nat.le_of_ble_eq_true rfl) ?_
  refine gw_iload C 87 dX6_lacks_85 5 rfl rfl ?_
  refine gw_if_ge C 94 90 dX6_lacks_87 (by decide) rfl (fun c87 => ?_) (fun c87 => ?_)
  · refine gw_iload C 96 dX6_lacks_94 5 rfl rfl ?_
    exact RT _ _ _ _ dX6_lacks_96 rfl
  · refine gw_iconst C 91 dX6_lacks_90 (v := 0) (by decide) rfl ?_
    refine gw_goto C 96 dX6_lacks_91 (by decide) ?_
    exact RT _ _ _ _ dX6_lacks_96 rfl
def fv_X6_lacks (x1 : Int32) (M : ps_M) : Int32 × ps_M := if (fv_X6_isStation x1 M) = 0 then (((-1 : Int32), M)) else (fv_X6_lacks_58 x1 (fv_X6_of x1 (4 : Int32) (fv_X6_copies 1 (0 : Int32) 4 (0 : Int32) M)) (fv_X6_of x1 (2 : Int32) (fv_X6_copies 1 (0 : Int32) 4 (0 : Int32) M)) ((fv_X6_hoursPass ((18 : Int32) - ((fv_X6_adds x1 (4 : Int32) (1000000 : Int32) (fv_X6_copies 1 (0 : Int32) 4 (0 : Int32) M)) 1 ((0 : Int32)).toNatClampNeg)) (fv_X6_adds x1 (4 : Int32) (1000000 : Int32) (fv_X6_copies 1 (0 : Int32) 4 (0 : Int32) M))).1) ((fv_X6_hoursPass ((18 : Int32) - ((fv_X6_adds x1 (4 : Int32) (1000000 : Int32) (fv_X6_copies 1 (0 : Int32) 4 (0 : Int32) M)) 1 ((0 : Int32)).toNatClampNeg)) (fv_X6_adds x1 (4 : Int32) (1000000 : Int32) (fv_X6_copies 1 (0 : Int32) 4 (0 : Int32) M))).2))
def ok_X6_lacks (x1 : Int32) (M : ps_M) : Prop := (ok_X6_isStation x1 M) ∧ (((fv_X6_isStation x1 M) = 0 → True) ∧ (¬ ((fv_X6_isStation x1 M) = 0) → ((ok_X6_copies 1 (0 : Int32) 4 (0 : Int32) M) ∧ ((ok_X6_of x1 (4 : Int32) (fv_X6_copies 1 (0 : Int32) 4 (0 : Int32) M)) ∧ ((ok_X6_of x1 (2 : Int32) (fv_X6_copies 1 (0 : Int32) 4 (0 : Int32) M)) ∧ ((ok_X6_adds x1 (4 : Int32) (1000000 : Int32) (fv_X6_copies 1 (0 : Int32) 4 (0 : Int32) M)) ∧ ((vp_in (0 : Int32) 237) ∧ ((ok_X6_hoursPass ((18 : Int32) - ((fv_X6_adds x1 (4 : Int32) (1000000 : Int32) (fv_X6_copies 1 (0 : Int32) 4 (0 : Int32) M)) 1 ((0 : Int32)).toNatClampNeg)) (fv_X6_adds x1 (4 : Int32) (1000000 : Int32) (fv_X6_copies 1 (0 : Int32) 4 (0 : Int32) M))) ∧ (ok_X6_lacks_58 x1 (fv_X6_of x1 (4 : Int32) (fv_X6_copies 1 (0 : Int32) 4 (0 : Int32) M)) (fv_X6_of x1 (2 : Int32) (fv_X6_copies 1 (0 : Int32) 4 (0 : Int32) M)) ((fv_X6_hoursPass ((18 : Int32) - ((fv_X6_adds x1 (4 : Int32) (1000000 : Int32) (fv_X6_copies 1 (0 : Int32) 4 (0 : Int32) M)) 1 ((0 : Int32)).toNatClampNeg)) (fv_X6_adds x1 (4 : Int32) (1000000 : Int32) (fv_X6_copies 1 (0 : Int32) 4 (0 : Int32) M))).1) ((fv_X6_hoursPass ((18 : Int32) - ((fv_X6_adds x1 (4 : Int32) (1000000 : Int32) (fv_X6_copies 1 (0 : Int32) 4 (0 : Int32) M)) 1 ((0 : Int32)).toNatClampNeg)) (fv_X6_adds x1 (4 : Int32) (1000000 : Int32) (fv_X6_copies 1 (0 : Int32) 4 (0 : Int32) M))).2))))))))))
set_option maxRecDepth 100000 in
set_option maxHeartbeats 4000000 in
theorem bw_X6_lacks {E : ps_E} {X : ps_X (Int32 × ps_M)} (C : ps_C (pm_Y E) X cX6_lacks RX6 (some .int) 7 160 6) (RT : ps_RI (pm_Y E) X cX6_lacks .int) (x1 : Int32) (M : ps_M) (hk : ok_X6_lacks x1 M) : ps_G (pm_Y E) X (fv_X6_lacks x1 M) 0 [(0, .ref (ps_ad E 0)), (1, .int x1)] [] M := by
  unfold fv_X6_lacks
  unfold ok_X6_lacks at hk
  refine gw_aload_n C 1 dX6_lacks_0 0 rfl rfl ?_
  refine gw_iload_n C 2 dX6_lacks_1 1 rfl rfl ?_
  refine gw_cVp C 5 dX6_lacks_2 rfl yv_X6_isStation lk_X6_50 [.int x1] [] rfl (ct_X6_isStation (E := E) (l := ps_l X) x1 M hk.1) pm_recv rfl (Nat.le_of_ble_eq_true rfl) (Nat.le_of_ble_eq_true rfl) (Nat.le_of_ble_eq_true rfl) ?_
  refine gw_if_ne C 10 8 dX6_lacks_5 (by decide) rfl (fun c5 => ?_) (fun c5 => ?_)
  · refine gw_iconst C 9 dX6_lacks_8 (v := (-1)) (by decide) rfl ?_
    exact RT _ _ _ _ dX6_lacks_9 rfl
  · refine gw_aload_n C 11 dX6_lacks_10 0 rfl rfl ?_
    refine gf_X6_7 C 14 dX6_lacks_11 rfl ?_
    refine gw_iconst C 15 dX6_lacks_14 (v := 0) (by decide) rfl ?_
    refine gw_aload_n C 16 dX6_lacks_15 0 rfl rfl ?_
    refine gf_X6_19 C 19 dX6_lacks_16 rfl ?_
    refine gw_iconst C 20 dX6_lacks_19 (v := 0) (by decide) rfl ?_
    refine gw_cSv C 23 dX6_lacks_20 rfl yv_X6_copies lk_X6_32 [.ref (ps_ad E 1), .int (0 : Int32), .ref (ps_ad E 4), .int (0 : Int32)] [] rfl (ct_X6_copies (E := E) (l := ps_l X) 1 (0 : Int32) 4 (0 : Int32) (by decide) (by decide) M (hk.2.2 c5).1) rfl (Nat.le_of_ble_eq_true rfl) (Nat.le_of_ble_eq_true rfl) (Nat.le_of_ble_eq_true rfl) ?_
    refine gw_aload_n C 24 dX6_lacks_23 0 rfl rfl ?_
    refine gw_iload_n C 25 dX6_lacks_24 1 rfl rfl ?_
    refine gw_iconst C 26 dX6_lacks_25 (v := 4) (by decide) rfl ?_
    refine gw_cVp C 29 dX6_lacks_26 rfl yv_X6_of lk_X6_54 [.int x1, .int (4 : Int32)] [] rfl (ct_X6_of (E := E) (l := ps_l X) x1 (4 : Int32) (fv_X6_copies 1 (0 : Int32) 4 (0 : Int32) M) (hk.2.2 c5).2.1) pm_recv rfl (Nat.le_of_ble_eq_true rfl) (Nat.le_of_ble_eq_true rfl) (Nat.le_of_ble_eq_true rfl) ?_
    refine gw_istore_n C 30 dX6_lacks_29 rfl [(0, .ref (ps_ad E 0)), (1, .int x1), (2, .int (fv_X6_of x1 (4 : Int32) (fv_X6_copies 1 (0 : Int32) 4 (0 : Int32) M)))] [1, 2, 0] (by decide) rfl ?_
    refine gw_aload_n C 31 dX6_lacks_30 0 rfl rfl ?_
    refine gw_iload_n C 32 dX6_lacks_31 1 rfl rfl ?_
    refine gw_iconst C 33 dX6_lacks_32 (v := 2) (by decide) rfl ?_
    refine gw_cVp C 36 dX6_lacks_33 rfl yv_X6_of lk_X6_54 [.int x1, .int (2 : Int32)] [] rfl (ct_X6_of (E := E) (l := ps_l X) x1 (2 : Int32) (fv_X6_copies 1 (0 : Int32) 4 (0 : Int32) M) (hk.2.2 c5).2.2.1) pm_recv rfl (Nat.le_of_ble_eq_true rfl) (Nat.le_of_ble_eq_true rfl) (Nat.le_of_ble_eq_true rfl) ?_
    refine gw_istore_n C 37 dX6_lacks_36 rfl [(0, .ref (ps_ad E 0)), (1, .int x1), (2, .int (fv_X6_of x1 (4 : Int32) (fv_X6_copies 1 (0 : Int32) 4 (0 : Int32) M))), (3, .int (fv_X6_of x1 (2 : Int32) (fv_X6_copies 1 (0 : Int32) 4 (0 : Int32) M)))] [1, 2, 3, 0] (by decide) rfl ?_
    refine gw_aload_n C 38 dX6_lacks_37 0 rfl rfl ?_
    refine gw_iload_n C 39 dX6_lacks_38 1 rfl rfl ?_
    refine gw_iconst C 40 dX6_lacks_39 (v := 4) (by decide) rfl ?_
    refine gw_ldc C 42 dX6_lacks_40 lk_X6_121 rfl ?_
    refine gw_cVv C 45 dX6_lacks_42 rfl yv_X6_adds lk_X6_43 [.int x1, .int (4 : Int32), .int (1000000 : Int32)] [] rfl (ct_X6_adds (E := E) (l := ps_l X) x1 (4 : Int32) (1000000 : Int32) (fv_X6_copies 1 (0 : Int32) 4 (0 : Int32) M) (hk.2.2 c5).2.2.2.1) pm_recv rfl (Nat.le_of_ble_eq_true rfl) (Nat.le_of_ble_eq_true rfl) (Nat.le_of_ble_eq_true rfl) ?_
    refine gw_aload_n C 46 dX6_lacks_45 0 rfl rfl ?_
    refine gw_bipush C 48 dX6_lacks_46 (v := 18) (by decide) rfl ?_
    refine gw_aload_n C 49 dX6_lacks_48 0 rfl rfl ?_
    refine gf_X6_7 C 52 dX6_lacks_49 rfl ?_
    refine gw_iconst C 53 dX6_lacks_52 (v := 0) (by decide) rfl ?_
    refine gm_ld C 54 dX6_lacks_53 rfl (by decide) (hk.2.2 c5).2.2.2.2.1 ?_
    refine gw_isub C 55 dX6_lacks_54 rfl ?_
    refine gw_cVi C 58 dX6_lacks_55 rfl yv_X6_hoursPass lk_X6_94 [.int ((18 : Int32) - ((fv_X6_adds x1 (4 : Int32) (1000000 : Int32) (fv_X6_copies 1 (0 : Int32) 4 (0 : Int32) M)) 1 ((0 : Int32)).toNatClampNeg))] [] rfl (ct_X6_hoursPass (E := E) (l := ps_l X) ((18 : Int32) - ((fv_X6_adds x1 (4 : Int32) (1000000 : Int32) (fv_X6_copies 1 (0 : Int32) 4 (0 : Int32) M)) 1 ((0 : Int32)).toNatClampNeg)) (fv_X6_adds x1 (4 : Int32) (1000000 : Int32) (fv_X6_copies 1 (0 : Int32) 4 (0 : Int32) M)) (hk.2.2 c5).2.2.2.2.2.1) pm_recv rfl (Nat.le_of_ble_eq_true rfl) (Nat.le_of_ble_eq_true rfl) (Nat.le_of_ble_eq_true rfl) ?_
    exact bw_X6_lacks_58 C RT  x1 (fv_X6_of x1 (4 : Int32) (fv_X6_copies 1 (0 : Int32) 4 (0 : Int32) M)) (fv_X6_of x1 (2 : Int32) (fv_X6_copies 1 (0 : Int32) 4 (0 : Int32) M)) ((fv_X6_hoursPass ((18 : Int32) - ((fv_X6_adds x1 (4 : Int32) (1000000 : Int32) (fv_X6_copies 1 (0 : Int32) 4 (0 : Int32) M)) 1 ((0 : Int32)).toNatClampNeg)) (fv_X6_adds x1 (4 : Int32) (1000000 : Int32) (fv_X6_copies 1 (0 : Int32) 4 (0 : Int32) M))).1) ((fv_X6_hoursPass ((18 : Int32) - ((fv_X6_adds x1 (4 : Int32) (1000000 : Int32) (fv_X6_copies 1 (0 : Int32) 4 (0 : Int32) M)) 1 ((0 : Int32)).toNatClampNeg)) (fv_X6_adds x1 (4 : Int32) (1000000 : Int32) (fv_X6_copies 1 (0 : Int32) 4 (0 : Int32) M))).2) (hk.2.2 c5).2.2.2.2.2.2
theorem ct_X6_lacks {E : ps_E} {l : Launch} (x1 : Int32)  (M : ps_M) (hk : ok_X6_lacks x1 M) : ps_CI (pm_Y E) l yX6_lacks cX6_lacks 6 (some .int) 7 160 [.ref (ps_ad E 0), .int x1] M (fv_X6_lacks x1 M) := ps_metI RX6 (by decide) rfl (Nat.le_of_ble_eq_true rfl) rfl (fun X _ C RT => bw_X6_lacks C RT x1 M hk)
def fv_X6_overStations_4 : Nat → Int32 → Int32 → Int32 → ps_M → Int32
  | 0, _, _, _, M => 0
  | n + 1, x1, x2, x3, M => if (M 1 ((1 : Int32)).toNatClampNeg) ≤ x3 then x2 else (fv_X6_overStations_4 n x1 (x2 + (fv_X6_of x3 x1 M)) (x3 + (1 : Int32)) M)
theorem fv_X6_overStations_4_s (n : Nat) (x1 : Int32) (x2 : Int32) (x3 : Int32) (M : ps_M) : fv_X6_overStations_4 (n + 1) x1 x2 x3 M = (if (M 1 ((1 : Int32)).toNatClampNeg) ≤ x3 then x2 else (fv_X6_overStations_4 n x1 (x2 + (fv_X6_of x3 x1 M)) (x3 + (1 : Int32)) M)) := rfl
def ok_X6_overStations_4 : Nat → Int32 → Int32 → Int32 → ps_M → Prop
  | 0, _, _, _, _ => False
  | n + 1, x1, x2, x3, M => (vp_in (1 : Int32) 237) ∧ (((M 1 ((1 : Int32)).toNatClampNeg) ≤ x3 → True) ∧ (¬ ((M 1 ((1 : Int32)).toNatClampNeg) ≤ x3) → ((ok_X6_of x3 x1 M) ∧ (ok_X6_overStations_4 n x1 (x2 + (fv_X6_of x3 x1 M)) (x3 + (1 : Int32)) M))))
theorem ok_X6_overStations_4_s (n : Nat) (x1 : Int32) (x2 : Int32) (x3 : Int32) (M : ps_M) : ok_X6_overStations_4 (n + 1) x1 x2 x3 M = ((vp_in (1 : Int32) 237) ∧ (((M 1 ((1 : Int32)).toNatClampNeg) ≤ x3 → True) ∧ (¬ ((M 1 ((1 : Int32)).toNatClampNeg) ≤ x3) → ((ok_X6_of x3 x1 M) ∧ (ok_X6_overStations_4 n x1 (x2 + (fv_X6_of x3 x1 M)) (x3 + (1 : Int32)) M))))) := rfl
set_option maxRecDepth 100000 in
set_option maxHeartbeats 4000000 in
theorem bw_X6_overStations_4 {E : ps_E} {X : ps_X (Int32 × ps_M)} (C : ps_C (pm_Y E) X cX6_overStations RX6 (some .int) 1 22 4) (RT : ps_RI (pm_Y E) X cX6_overStations .int) (M : ps_M) : ∀ (n : Nat) (x1 : Int32) (x2 : Int32) (x3 : Int32), ok_X6_overStations_4 n x1 x2 x3 M → ps_G (pm_Y E) X (fv_X6_overStations_4 n x1 x2 x3 M, M) 4 [(0, .ref (ps_ad E 0)), (1, .int x1), (2, .int x2), (3, .int x3)] [] M := by
  intro n
  induction n with
  | zero => intro x1 x2 x3 h; exact h.elim
  | succ n ih =>
    intro x1 x2 x3 hk
    rw [fv_X6_overStations_4_s]
    rw [ok_X6_overStations_4_s] at hk
    refine gw_iload_n C 5 dX6_overStations_4 3 rfl rfl ?_
    refine gw_aload_n C 6 dX6_overStations_5 0 rfl rfl ?_
    refine gf_X6_7 C 9 dX6_overStations_6 rfl ?_
    refine gw_iconst C 10 dX6_overStations_9 (v := 1) (by decide) rfl ?_
    refine gm_ld C 11 dX6_overStations_10 rfl (by decide) hk.1 ?_
    refine gw_ic_geP C 29 14 dX6_overStations_11 (by decide) rfl (fun c11 => ?_) (fun c11 => ?_)
    · refine gw_iload_n C 30 dX6_overStations_29 2 rfl rfl ?_
      exact RT _ _ _ _ dX6_overStations_30 rfl
    · refine gw_iload_n C 15 dX6_overStations_14 2 rfl rfl ?_
      refine gw_aload_n C 16 dX6_overStations_15 0 rfl rfl ?_
      refine gw_iload_n C 17 dX6_overStations_16 3 rfl rfl ?_
      refine gw_iload_n C 18 dX6_overStations_17 1 rfl rfl ?_
      refine gw_cVp C 21 dX6_overStations_18 rfl yv_X6_of lk_X6_54 [.int x3, .int x1] [.int x2] rfl (ct_X6_of (E := E) (l := ps_l X) x3 x1 M (hk.2.2 c11).1) pm_recv rfl (Nat.le_of_ble_eq_true rfl) (Nat.le_of_ble_eq_true rfl) (Nat.le_of_ble_eq_true rfl) ?_
      refine gw_iadd C 22 dX6_overStations_21 rfl ?_
      refine gw_istore_n C 23 dX6_overStations_22 rfl [(0, .ref (ps_ad E 0)), (1, .int x1), (2, .int (x2 + (fv_X6_of x3 x1 M))), (3, .int x3)] [1, 2, 0, 3] (by decide) rfl ?_
      refine gw_iinc C 26 dX6_overStations_23 rfl (y := 1) (by decide) rfl 3 rfl [(0, .ref (ps_ad E 0)), (1, .int x1), (2, .int (x2 + (fv_X6_of x3 x1 M))), (3, .int (x3 + (1 : Int32)))] [1, 2, 3, 0] (by decide) rfl ?_
      refine gw_goto C 4 dX6_overStations_26 (by decide) ?_
      exact ih x1 (x2 + (fv_X6_of x3 x1 M)) (x3 + (1 : Int32)) (hk.2.2 c11).2
def fv_X6_overStations (x1 : Int32) (M : ps_M) : Int32 := fv_X6_overStations_4 ps_FU x1 (0 : Int32) (0 : Int32) M
def ok_X6_overStations (x1 : Int32) (M : ps_M) : Prop := ok_X6_overStations_4 ps_FU x1 (0 : Int32) (0 : Int32) M
set_option maxRecDepth 100000 in
set_option maxHeartbeats 4000000 in
theorem bw_X6_overStations {E : ps_E} {X : ps_X (Int32 × ps_M)} (C : ps_C (pm_Y E) X cX6_overStations RX6 (some .int) 1 22 4) (RT : ps_RI (pm_Y E) X cX6_overStations .int) (M : ps_M) (x1 : Int32) (hk : ok_X6_overStations x1 M) : ps_G (pm_Y E) X (fv_X6_overStations x1 M, M) 0 [(0, .ref (ps_ad E 0)), (1, .int x1)] [] M := by
  unfold fv_X6_overStations
  unfold ok_X6_overStations at hk
  refine gw_iconst C 1 dX6_overStations_0 (v := 0) (by decide) rfl ?_
  refine gw_istore_n C 2 dX6_overStations_1 rfl [(0, .ref (ps_ad E 0)), (1, .int x1), (2, .int (0 : Int32))] [1, 2, 0] (by decide) rfl ?_
  refine gw_iconst C 3 dX6_overStations_2 (v := 0) (by decide) rfl ?_
  refine gw_istore_n C 4 dX6_overStations_3 rfl [(0, .ref (ps_ad E 0)), (1, .int x1), (2, .int (0 : Int32)), (3, .int (0 : Int32))] [1, 2, 3, 0] (by decide) rfl ?_
  exact bw_X6_overStations_4 C RT M  ps_FU x1 (0 : Int32) (0 : Int32) hk
theorem ct_X6_overStations {E : ps_E} {l : Launch} (x1 : Int32)  (M : ps_M) (hk : ok_X6_overStations x1 M) : ps_CI (pm_Y E) l yX6_overStations cX6_overStations 4 (some .int) 1 22 [.ref (ps_ad E 0), .int x1] M (fv_X6_overStations x1 M, M) := ps_metI RX6 (by decide) rfl (Nat.le_of_ble_eq_true rfl) rfl (fun X _ C RT => bw_X6_overStations C RT M x1 hk)
def fv_X6_countedAs_57 (rec4 : Int32 → Int32 → Int32 → ps_M → Int32) (x1 : Int32) (x3 : Int32) (s1 : Int32) (s0 : Int32) (M : ps_M) : Int32 := rec4 x1 (s0 + s1) (x3 + (1 : Int32)) M
def ok_X6_countedAs_57 (rec4 : Int32 → Int32 → Int32 → ps_M → Int32) (okr4 : Int32 → Int32 → Int32 → ps_M → Prop) (x1 : Int32) (x3 : Int32) (s1 : Int32) (s0 : Int32) (M : ps_M) : Prop := okr4 x1 (s0 + s1) (x3 + (1 : Int32)) M
set_option maxRecDepth 100000 in
set_option maxHeartbeats 4000000 in
theorem bw_X6_countedAs_57 {E : ps_E} {X : ps_X (Int32 × ps_M)} (C : ps_C (pm_Y E) X cX6_countedAs RX6 (some .int) 1 22 4) (RT : ps_RI (pm_Y E) X cX6_countedAs .int) (M : ps_M) (rec4 : Int32 → Int32 → Int32 → ps_M → Int32) (okr4 : Int32 → Int32 → Int32 → ps_M → Prop) (hr4 : ∀ (x1 : Int32) (x2 : Int32) (x3 : Int32), okr4 x1 x2 x3 M → ps_G (pm_Y E) X (rec4 x1 x2 x3 M, M) 4 [(0, .ref (ps_ad E 0)), (1, .int x1), (2, .int x2), (3, .int x3)] [] M) (x1 : Int32) (x3 : Int32) (s1 : Int32) (s0 : Int32) (hk : ok_X6_countedAs_57 rec4 okr4 x1 x3 s1 s0 M) : ps_G (pm_Y E) X (fv_X6_countedAs_57 rec4 x1 x3 s1 s0 M, M) 57 [(0, .ref (ps_ad E 0)), (1, .int x1), (3, .int x3)] [.int s1, .int s0] M := by
  unfold fv_X6_countedAs_57
  unfold ok_X6_countedAs_57 at hk
  refine gw_iadd C 58 dX6_countedAs_57 rfl ?_
  refine gw_istore_n C 59 dX6_countedAs_58 rfl [(0, .ref (ps_ad E 0)), (1, .int x1), (2, .int (s0 + s1)), (3, .int x3)] [1, 2, 0, 3] (by decide) rfl ?_
  refine gw_iinc C 62 dX6_countedAs_59 rfl (y := 1) (by decide) rfl 3 rfl [(0, .ref (ps_ad E 0)), (1, .int x1), (2, .int (s0 + s1)), (3, .int (x3 + (1 : Int32)))] [1, 2, 3, 0] (by decide) rfl ?_
  refine gw_goto C 4 dX6_countedAs_62 (by decide) ?_
  exact hr4 x1 (s0 + s1) (x3 + (1 : Int32)) hk
def fv_X6_countedAs_56 (rec4 : Int32 → Int32 → Int32 → ps_M → Int32) (x1 : Int32) (x3 : Int32) (s0 : Int32) (M : ps_M) : Int32 := fv_X6_countedAs_57 rec4 x1 x3 (0 : Int32) s0 M
def ok_X6_countedAs_56 (rec4 : Int32 → Int32 → Int32 → ps_M → Int32) (okr4 : Int32 → Int32 → Int32 → ps_M → Prop) (x1 : Int32) (x3 : Int32) (s0 : Int32) (M : ps_M) : Prop := ok_X6_countedAs_57 rec4 okr4 x1 x3 (0 : Int32) s0 M
set_option maxRecDepth 100000 in
set_option maxHeartbeats 4000000 in
theorem bw_X6_countedAs_56 {E : ps_E} {X : ps_X (Int32 × ps_M)} (C : ps_C (pm_Y E) X cX6_countedAs RX6 (some .int) 1 22 4) (RT : ps_RI (pm_Y E) X cX6_countedAs .int) (M : ps_M) (rec4 : Int32 → Int32 → Int32 → ps_M → Int32) (okr4 : Int32 → Int32 → Int32 → ps_M → Prop) (hr4 : ∀ (x1 : Int32) (x2 : Int32) (x3 : Int32), okr4 x1 x2 x3 M → ps_G (pm_Y E) X (rec4 x1 x2 x3 M, M) 4 [(0, .ref (ps_ad E 0)), (1, .int x1), (2, .int x2), (3, .int x3)] [] M) (x1 : Int32) (x3 : Int32) (s0 : Int32) (hk : ok_X6_countedAs_56 rec4 okr4 x1 x3 s0 M) : ps_G (pm_Y E) X (fv_X6_countedAs_56 rec4 x1 x3 s0 M, M) 56 [(0, .ref (ps_ad E 0)), (1, .int x1), (3, .int x3)] [.int s0] M := by
  unfold fv_X6_countedAs_56
  unfold ok_X6_countedAs_56 at hk
  refine gw_iconst C 57 dX6_countedAs_56 (v := 0) (by decide) rfl ?_
  exact bw_X6_countedAs_57 C RT M _ _ hr4 x1 x3 (0 : Int32) s0 hk
def fv_X6_countedAs_48 (rec4 : Int32 → Int32 → Int32 → ps_M → Int32) (x1 : Int32) (x3 : Int32) (s1 : Int32) (s0 : Int32) (M : ps_M) : Int32 := if s1 = x1 then (fv_X6_countedAs_57 rec4 x1 x3 (1 : Int32) s0 M) else (fv_X6_countedAs_56 rec4 x1 x3 s0 M)
def ok_X6_countedAs_48 (rec4 : Int32 → Int32 → Int32 → ps_M → Int32) (okr4 : Int32 → Int32 → Int32 → ps_M → Prop) (x1 : Int32) (x3 : Int32) (s1 : Int32) (s0 : Int32) (M : ps_M) : Prop := (s1 = x1 → (ok_X6_countedAs_57 rec4 okr4 x1 x3 (1 : Int32) s0 M)) ∧ (¬ (s1 = x1) → (ok_X6_countedAs_56 rec4 okr4 x1 x3 s0 M))
set_option maxRecDepth 100000 in
set_option maxHeartbeats 4000000 in
theorem bw_X6_countedAs_48 {E : ps_E} {X : ps_X (Int32 × ps_M)} (C : ps_C (pm_Y E) X cX6_countedAs RX6 (some .int) 1 22 4) (RT : ps_RI (pm_Y E) X cX6_countedAs .int) (M : ps_M) (rec4 : Int32 → Int32 → Int32 → ps_M → Int32) (okr4 : Int32 → Int32 → Int32 → ps_M → Prop) (hr4 : ∀ (x1 : Int32) (x2 : Int32) (x3 : Int32), okr4 x1 x2 x3 M → ps_G (pm_Y E) X (rec4 x1 x2 x3 M, M) 4 [(0, .ref (ps_ad E 0)), (1, .int x1), (2, .int x2), (3, .int x3)] [] M) (x1 : Int32) (x3 : Int32) (s1 : Int32) (s0 : Int32) (hk : ok_X6_countedAs_48 rec4 okr4 x1 x3 s1 s0 M) : ps_G (pm_Y E) X (fv_X6_countedAs_48 rec4 x1 x3 s1 s0 M, M) 48 [(0, .ref (ps_ad E 0)), (1, .int x1), (3, .int x3)] [.int s1, .int s0] M := by
  unfold fv_X6_countedAs_48
  unfold ok_X6_countedAs_48 at hk
  refine gw_iload_n C 49 dX6_countedAs_48 1 rfl rfl ?_
  refine gw_ic_neP C 56 52 dX6_countedAs_49 (by decide) rfl (fun c49 => ?_) (fun c49 => ?_)
  · refine gw_iconst C 53 dX6_countedAs_52 (v := 1) (by decide) rfl ?_
    refine gw_goto C 57 dX6_countedAs_53 (by decide) ?_
    exact bw_X6_countedAs_57 C RT M _ _ hr4 x1 x3 (1 : Int32) s0 (hk.1 c49)
  · exact bw_X6_countedAs_56 C RT M _ _ hr4 x1 x3 s0 (hk.2 c49)
def fv_X6_countedAs_4 : Nat → Int32 → Int32 → Int32 → ps_M → Int32
  | 0, _, _, _, M => 0
  | n + 1, x1, x2, x3, M => if (M 1 ((1 : Int32)).toNatClampNeg) ≤ x3 then x2 else (if (fv_X6_of x3 (10 : Int32) M) = (-1 : Int32) then (fv_X6_countedAs_56 (fun a1 a2 a3 M => fv_X6_countedAs_4 n a1 a2 a3 M) x1 x3 x2 M) else (if (fv_X6_of x3 (10 : Int32) M) = (fv_X6_of x3 (9 : Int32) M) then (fv_X6_countedAs_48 (fun a1 a2 a3 M => fv_X6_countedAs_4 n a1 a2 a3 M) x1 x3 (1 : Int32) x2 M) else (fv_X6_countedAs_48 (fun a1 a2 a3 M => fv_X6_countedAs_4 n a1 a2 a3 M) x1 x3 (0 : Int32) x2 M)))
theorem fv_X6_countedAs_4_s (n : Nat) (x1 : Int32) (x2 : Int32) (x3 : Int32) (M : ps_M) : fv_X6_countedAs_4 (n + 1) x1 x2 x3 M = (if (M 1 ((1 : Int32)).toNatClampNeg) ≤ x3 then x2 else (if (fv_X6_of x3 (10 : Int32) M) = (-1 : Int32) then (fv_X6_countedAs_56 (fun a1 a2 a3 M => fv_X6_countedAs_4 n a1 a2 a3 M) x1 x3 x2 M) else (if (fv_X6_of x3 (10 : Int32) M) = (fv_X6_of x3 (9 : Int32) M) then (fv_X6_countedAs_48 (fun a1 a2 a3 M => fv_X6_countedAs_4 n a1 a2 a3 M) x1 x3 (1 : Int32) x2 M) else (fv_X6_countedAs_48 (fun a1 a2 a3 M => fv_X6_countedAs_4 n a1 a2 a3 M) x1 x3 (0 : Int32) x2 M)))) := rfl
def ok_X6_countedAs_4 : Nat → Int32 → Int32 → Int32 → ps_M → Prop
  | 0, _, _, _, _ => False
  | n + 1, x1, x2, x3, M => (vp_in (1 : Int32) 237) ∧ (((M 1 ((1 : Int32)).toNatClampNeg) ≤ x3 → True) ∧ (¬ ((M 1 ((1 : Int32)).toNatClampNeg) ≤ x3) → ((ok_X6_of x3 (10 : Int32) M) ∧ (((fv_X6_of x3 (10 : Int32) M) = (-1 : Int32) → (ok_X6_countedAs_56 (fun a1 a2 a3 M => fv_X6_countedAs_4 n a1 a2 a3 M) (fun a1 a2 a3 M => ok_X6_countedAs_4 n a1 a2 a3 M) x1 x3 x2 M)) ∧ (¬ ((fv_X6_of x3 (10 : Int32) M) = (-1 : Int32)) → ((ok_X6_of x3 (10 : Int32) M) ∧ ((ok_X6_of x3 (9 : Int32) M) ∧ (((fv_X6_of x3 (10 : Int32) M) = (fv_X6_of x3 (9 : Int32) M) → (ok_X6_countedAs_48 (fun a1 a2 a3 M => fv_X6_countedAs_4 n a1 a2 a3 M) (fun a1 a2 a3 M => ok_X6_countedAs_4 n a1 a2 a3 M) x1 x3 (1 : Int32) x2 M)) ∧ (¬ ((fv_X6_of x3 (10 : Int32) M) = (fv_X6_of x3 (9 : Int32) M)) → (ok_X6_countedAs_48 (fun a1 a2 a3 M => fv_X6_countedAs_4 n a1 a2 a3 M) (fun a1 a2 a3 M => ok_X6_countedAs_4 n a1 a2 a3 M) x1 x3 (0 : Int32) x2 M))))))))))
theorem ok_X6_countedAs_4_s (n : Nat) (x1 : Int32) (x2 : Int32) (x3 : Int32) (M : ps_M) : ok_X6_countedAs_4 (n + 1) x1 x2 x3 M = ((vp_in (1 : Int32) 237) ∧ (((M 1 ((1 : Int32)).toNatClampNeg) ≤ x3 → True) ∧ (¬ ((M 1 ((1 : Int32)).toNatClampNeg) ≤ x3) → ((ok_X6_of x3 (10 : Int32) M) ∧ (((fv_X6_of x3 (10 : Int32) M) = (-1 : Int32) → (ok_X6_countedAs_56 (fun a1 a2 a3 M => fv_X6_countedAs_4 n a1 a2 a3 M) (fun a1 a2 a3 M => ok_X6_countedAs_4 n a1 a2 a3 M) x1 x3 x2 M)) ∧ (¬ ((fv_X6_of x3 (10 : Int32) M) = (-1 : Int32)) → ((ok_X6_of x3 (10 : Int32) M) ∧ ((ok_X6_of x3 (9 : Int32) M) ∧ (((fv_X6_of x3 (10 : Int32) M) = (fv_X6_of x3 (9 : Int32) M) → (ok_X6_countedAs_48 (fun a1 a2 a3 M => fv_X6_countedAs_4 n a1 a2 a3 M) (fun a1 a2 a3 M => ok_X6_countedAs_4 n a1 a2 a3 M) x1 x3 (1 : Int32) x2 M)) ∧ (¬ ((fv_X6_of x3 (10 : Int32) M) = (fv_X6_of x3 (9 : Int32) M)) → (ok_X6_countedAs_48 (fun a1 a2 a3 M => fv_X6_countedAs_4 n a1 a2 a3 M) (fun a1 a2 a3 M => ok_X6_countedAs_4 n a1 a2 a3 M) x1 x3 (0 : Int32) x2 M))))))))))) := rfl
set_option maxRecDepth 100000 in
set_option maxHeartbeats 4000000 in
theorem bw_X6_countedAs_4 {E : ps_E} {X : ps_X (Int32 × ps_M)} (C : ps_C (pm_Y E) X cX6_countedAs RX6 (some .int) 1 22 4) (RT : ps_RI (pm_Y E) X cX6_countedAs .int) (M : ps_M) : ∀ (n : Nat) (x1 : Int32) (x2 : Int32) (x3 : Int32), ok_X6_countedAs_4 n x1 x2 x3 M → ps_G (pm_Y E) X (fv_X6_countedAs_4 n x1 x2 x3 M, M) 4 [(0, .ref (ps_ad E 0)), (1, .int x1), (2, .int x2), (3, .int x3)] [] M := by
  intro n
  induction n with
  | zero => intro x1 x2 x3 h; exact h.elim
  | succ n ih =>
    intro x1 x2 x3 hk
    rw [fv_X6_countedAs_4_s]
    rw [ok_X6_countedAs_4_s] at hk
    refine gw_iload_n C 5 dX6_countedAs_4 3 rfl rfl ?_
    refine gw_aload_n C 6 dX6_countedAs_5 0 rfl rfl ?_
    refine gf_X6_7 C 9 dX6_countedAs_6 rfl ?_
    refine gw_iconst C 10 dX6_countedAs_9 (v := 1) (by decide) rfl ?_
    refine gm_ld C 11 dX6_countedAs_10 rfl (by decide) hk.1 ?_
    refine gw_ic_geP C 65 14 dX6_countedAs_11 (by decide) rfl (fun c11 => ?_) (fun c11 => ?_)
    · refine gw_iload_n C 66 dX6_countedAs_65 2 rfl rfl ?_
      exact RT _ _ _ _ dX6_countedAs_66 rfl
    · refine gw_iload_n C 15 dX6_countedAs_14 2 rfl rfl ?_
      refine gw_aload_n C 16 dX6_countedAs_15 0 rfl rfl ?_
      refine gw_iload_n C 17 dX6_countedAs_16 3 rfl rfl ?_
      refine gw_bipush C 19 dX6_countedAs_17 (v := 10) (by decide) rfl ?_
      refine gw_cVp C 22 dX6_countedAs_19 rfl yv_X6_of lk_X6_54 [.int x3, .int (10 : Int32)] [.int x2] rfl (ct_X6_of (E := E) (l := ps_l X) x3 (10 : Int32) M (hk.2.2 c11).1) pm_recv rfl (Nat.le_of_ble_eq_true rfl) (Nat.le_of_ble_eq_true rfl) (Nat.le_of_ble_eq_true rfl) ?_
      refine gw_iconst C 23 dX6_countedAs_22 (v := (-1)) (by decide) rfl ?_
      refine gw_ic_eqP C 56 26 dX6_countedAs_23 (by decide) rfl (fun c23 => ?_) (fun c23 => ?_)
      · refine gw_sub C [(0, .ref (ps_ad E 0)), (1, .int x1), (3, .int x3)] [0, 1, 3] rfl ?_
        exact bw_X6_countedAs_56 C RT M _ _ (fun a1 a2 a3  h => ih a1 a2 a3  h) x1 x3 x2 ((hk.2.2 c11).2.1 c23)
      · refine gw_aload_n C 27 dX6_countedAs_26 0 rfl rfl ?_
        refine gw_iload_n C 28 dX6_countedAs_27 3 rfl rfl ?_
        refine gw_bipush C 30 dX6_countedAs_28 (v := 10) (by decide) rfl ?_
        refine gw_cVp C 33 dX6_countedAs_30 rfl yv_X6_of lk_X6_54 [.int x3, .int (10 : Int32)] [.int x2] rfl (ct_X6_of (E := E) (l := ps_l X) x3 (10 : Int32) M ((hk.2.2 c11).2.2 c23).1) pm_recv rfl (Nat.le_of_ble_eq_true rfl) (Nat.le_of_ble_eq_true rfl) (Nat.le_of_ble_eq_true rfl) ?_
        refine gw_aload_n C 34 dX6_countedAs_33 0 rfl rfl ?_
        refine gw_iload_n C 35 dX6_countedAs_34 3 rfl rfl ?_
        refine gw_bipush C 37 dX6_countedAs_35 (v := 9) (by decide) rfl ?_
        refine gw_cVp C 40 dX6_countedAs_37 rfl yv_X6_of lk_X6_54 [.int x3, .int (9 : Int32)] [.int (fv_X6_of x3 (10 : Int32) M), .int x2] rfl (ct_X6_of (E := E) (l := ps_l X) x3 (9 : Int32) M ((hk.2.2 c11).2.2 c23).2.1) pm_recv rfl (Nat.le_of_ble_eq_true rfl) (Nat.le_of_ble_eq_true rfl) (Nat.le_of_ble_eq_true rfl) ?_
        refine gw_ic_neP C 47 43 dX6_countedAs_40 (by decide) rfl (fun c40 => ?_) (fun c40 => ?_)
        · refine gw_iconst C 44 dX6_countedAs_43 (v := 1) (by decide) rfl ?_
          refine gw_goto C 48 dX6_countedAs_44 (by decide) ?_
          refine gw_sub C [(0, .ref (ps_ad E 0)), (1, .int x1), (3, .int x3)] [0, 1, 3] rfl ?_
          exact bw_X6_countedAs_48 C RT M _ _ (fun a1 a2 a3  h => ih a1 a2 a3  h) x1 x3 (1 : Int32) x2 (((hk.2.2 c11).2.2 c23).2.2.1 c40)
        · refine gw_iconst C 48 dX6_countedAs_47 (v := 0) (by decide) rfl ?_
          refine gw_sub C [(0, .ref (ps_ad E 0)), (1, .int x1), (3, .int x3)] [0, 1, 3] rfl ?_
          exact bw_X6_countedAs_48 C RT M _ _ (fun a1 a2 a3  h => ih a1 a2 a3  h) x1 x3 (0 : Int32) x2 (((hk.2.2 c11).2.2 c23).2.2.2 c40)
def fv_X6_countedAs (x1 : Int32) (M : ps_M) : Int32 := fv_X6_countedAs_4 ps_FU x1 (0 : Int32) (0 : Int32) M
def ok_X6_countedAs (x1 : Int32) (M : ps_M) : Prop := ok_X6_countedAs_4 ps_FU x1 (0 : Int32) (0 : Int32) M
set_option maxRecDepth 100000 in
set_option maxHeartbeats 4000000 in
theorem bw_X6_countedAs {E : ps_E} {X : ps_X (Int32 × ps_M)} (C : ps_C (pm_Y E) X cX6_countedAs RX6 (some .int) 1 22 4) (RT : ps_RI (pm_Y E) X cX6_countedAs .int) (M : ps_M) (x1 : Int32) (hk : ok_X6_countedAs x1 M) : ps_G (pm_Y E) X (fv_X6_countedAs x1 M, M) 0 [(0, .ref (ps_ad E 0)), (1, .int x1)] [] M := by
  unfold fv_X6_countedAs
  unfold ok_X6_countedAs at hk
  refine gw_iconst C 1 dX6_countedAs_0 (v := 0) (by decide) rfl ?_
  refine gw_istore_n C 2 dX6_countedAs_1 rfl [(0, .ref (ps_ad E 0)), (1, .int x1), (2, .int (0 : Int32))] [1, 2, 0] (by decide) rfl ?_
  refine gw_iconst C 3 dX6_countedAs_2 (v := 0) (by decide) rfl ?_
  refine gw_istore_n C 4 dX6_countedAs_3 rfl [(0, .ref (ps_ad E 0)), (1, .int x1), (2, .int (0 : Int32)), (3, .int (0 : Int32))] [1, 2, 3, 0] (by decide) rfl ?_
  exact bw_X6_countedAs_4 C RT M  ps_FU x1 (0 : Int32) (0 : Int32) hk
theorem ct_X6_countedAs {E : ps_E} {l : Launch} (x1 : Int32)  (M : ps_M) (hk : ok_X6_countedAs x1 M) : ps_CI (pm_Y E) l yX6_countedAs cX6_countedAs 4 (some .int) 1 22 [.ref (ps_ad E 0), .int x1] M (fv_X6_countedAs x1 M, M) := ps_metI RX6 (by decide) rfl (Nat.le_of_ble_eq_true rfl) rfl (fun X _ C RT => bw_X6_countedAs C RT M x1 hk)
def fv_X6_overClerks_68 (rec4 : Int32 → Int32 → Int32 → ps_M → Int32) (x1 : Int32) (x3 : Int32) (s1 : Int32) (s0 : Int32) (M : ps_M) : Int32 := rec4 x1 (s0 + s1) (x3 + (1 : Int32)) M
def ok_X6_overClerks_68 (rec4 : Int32 → Int32 → Int32 → ps_M → Int32) (okr4 : Int32 → Int32 → Int32 → ps_M → Prop) (x1 : Int32) (x3 : Int32) (s1 : Int32) (s0 : Int32) (M : ps_M) : Prop := okr4 x1 (s0 + s1) (x3 + (1 : Int32)) M
set_option maxRecDepth 100000 in
set_option maxHeartbeats 4000000 in
theorem bw_X6_overClerks_68 {E : ps_E} {X : ps_X (Int32 × ps_M)} (C : ps_C (pm_Y E) X cX6_overClerks RX6 (some .int) 2 43 5) (RT : ps_RI (pm_Y E) X cX6_overClerks .int) (M : ps_M) (rec4 : Int32 → Int32 → Int32 → ps_M → Int32) (okr4 : Int32 → Int32 → Int32 → ps_M → Prop) (hr4 : ∀ (x1 : Int32) (x2 : Int32) (x3 : Int32), okr4 x1 x2 x3 M → ps_G (pm_Y E) X (rec4 x1 x2 x3 M, M) 4 [(0, .ref (ps_ad E 0)), (1, .int x1), (2, .int x2), (3, .int x3)] [] M) (x1 : Int32) (x3 : Int32) (s1 : Int32) (s0 : Int32) (hk : ok_X6_overClerks_68 rec4 okr4 x1 x3 s1 s0 M) : ps_G (pm_Y E) X (fv_X6_overClerks_68 rec4 x1 x3 s1 s0 M, M) 68 [(0, .ref (ps_ad E 0)), (1, .int x1), (3, .int x3)] [.int s1, .int s0] M := by
  unfold fv_X6_overClerks_68
  unfold ok_X6_overClerks_68 at hk
  refine gw_iadd C 69 dX6_overClerks_68 rfl ?_
  refine gw_istore_n C 70 dX6_overClerks_69 rfl [(0, .ref (ps_ad E 0)), (1, .int x1), (2, .int (s0 + s1)), (3, .int x3)] [1, 2, 0, 3] (by decide) rfl ?_
  refine gw_iinc C 73 dX6_overClerks_70 rfl (y := 1) (by decide) rfl 3 rfl [(0, .ref (ps_ad E 0)), (1, .int x1), (2, .int (s0 + s1)), (3, .int (x3 + (1 : Int32)))] [1, 2, 3, 0] (by decide) rfl ?_
  refine gw_goto C 4 dX6_overClerks_73 (by decide) ?_
  exact hr4 x1 (s0 + s1) (x3 + (1 : Int32)) hk
def fv_X6_overClerks_41 (rec4 : Int32 → Int32 → Int32 → ps_M → Int32) (x1 : Int32) (x2 : Int32) (x3 : Int32) (s0 : Int32) (M : ps_M) : Int32 := if x1 = (2 : Int32) then (fv_X6_overClerks_68 rec4 x1 x3 (fv_X6_ofClerk x3 (4 : Int32) M) x2 M) else (if s0 = 0 then (fv_X6_overClerks_68 rec4 x1 x3 (0 : Int32) x2 M) else (fv_X6_overClerks_68 rec4 x1 x3 (1 : Int32) x2 M))
def ok_X6_overClerks_41 (rec4 : Int32 → Int32 → Int32 → ps_M → Int32) (okr4 : Int32 → Int32 → Int32 → ps_M → Prop) (x1 : Int32) (x2 : Int32) (x3 : Int32) (s0 : Int32) (M : ps_M) : Prop := (x1 = (2 : Int32) → ((ok_X6_ofClerk x3 (4 : Int32) M) ∧ (ok_X6_overClerks_68 rec4 okr4 x1 x3 (fv_X6_ofClerk x3 (4 : Int32) M) x2 M))) ∧ (¬ (x1 = (2 : Int32)) → ((s0 = 0 → (ok_X6_overClerks_68 rec4 okr4 x1 x3 (0 : Int32) x2 M)) ∧ (¬ (s0 = 0) → (ok_X6_overClerks_68 rec4 okr4 x1 x3 (1 : Int32) x2 M))))
set_option maxRecDepth 100000 in
set_option maxHeartbeats 4000000 in
theorem bw_X6_overClerks_41 {E : ps_E} {X : ps_X (Int32 × ps_M)} (C : ps_C (pm_Y E) X cX6_overClerks RX6 (some .int) 2 43 5) (RT : ps_RI (pm_Y E) X cX6_overClerks .int) (M : ps_M) (rec4 : Int32 → Int32 → Int32 → ps_M → Int32) (okr4 : Int32 → Int32 → Int32 → ps_M → Prop) (hr4 : ∀ (x1 : Int32) (x2 : Int32) (x3 : Int32), okr4 x1 x2 x3 M → ps_G (pm_Y E) X (rec4 x1 x2 x3 M, M) 4 [(0, .ref (ps_ad E 0)), (1, .int x1), (2, .int x2), (3, .int x3)] [] M) (x1 : Int32) (x2 : Int32) (x3 : Int32) (s0 : Int32) (hk : ok_X6_overClerks_41 rec4 okr4 x1 x2 x3 s0 M) : ps_G (pm_Y E) X (fv_X6_overClerks_41 rec4 x1 x2 x3 s0 M, M) 41 [(0, .ref (ps_ad E 0)), (1, .int x1), (2, .int x2), (3, .int x3)] [.int s0] M := by
  unfold fv_X6_overClerks_41
  unfold ok_X6_overClerks_41 at hk
  refine gw_istore C 43 dX6_overClerks_41 rfl [(0, .ref (ps_ad E 0)), (1, .int x1), (2, .int x2), (3, .int x3), (4, .int s0)] [1, 2, 3, 4, 0] (by decide) rfl ?_
  refine gw_iload_n C 44 dX6_overClerks_43 2 rfl rfl ?_
  refine gw_iload_n C 45 dX6_overClerks_44 1 rfl rfl ?_
  refine gw_iconst C 46 dX6_overClerks_45 (v := 2) (by decide) rfl ?_
  refine gw_ic_neP C 58 49 dX6_overClerks_46 (by decide) rfl (fun c46 => ?_) (fun c46 => ?_)
  · refine gw_aload_n C 50 dX6_overClerks_49 0 rfl rfl ?_
    refine gw_iload_n C 51 dX6_overClerks_50 3 rfl rfl ?_
    refine gw_iconst C 52 dX6_overClerks_51 (v := 4) (by decide) rfl ?_
    refine gw_cVp C 55 dX6_overClerks_52 rfl yv_X6_ofClerk lk_X6_58 [.int x3, .int (4 : Int32)] [.int x2] rfl (ct_X6_ofClerk (E := E) (l := ps_l X) x3 (4 : Int32) M (hk.1 c46).1) pm_recv rfl (Nat.le_of_ble_eq_true rfl) (Nat.le_of_ble_eq_true rfl) (Nat.le_of_ble_eq_true rfl) ?_
    refine gw_goto C 68 dX6_overClerks_55 (by decide) ?_
    refine gw_sub C [(0, .ref (ps_ad E 0)), (1, .int x1), (3, .int x3)] [0, 1, 3] rfl ?_
    exact bw_X6_overClerks_68 C RT M _ _ hr4 x1 x3 (fv_X6_ofClerk x3 (4 : Int32) M) x2 (hk.1 c46).2
  · refine gw_iload C 60 dX6_overClerks_58 4 rfl rfl ?_
    refine gw_if_eqP C 67 63 dX6_overClerks_60 (by decide) rfl (fun c60 => ?_) (fun c60 => ?_)
    · refine gw_iconst C 68 dX6_overClerks_67 (v := 0) (by decide) rfl ?_
      refine gw_sub C [(0, .ref (ps_ad E 0)), (1, .int x1), (3, .int x3)] [0, 1, 3] rfl ?_
      exact bw_X6_overClerks_68 C RT M _ _ hr4 x1 x3 (0 : Int32) x2 ((hk.2 c46).1 c60)
    · refine gw_iconst C 64 dX6_overClerks_63 (v := 1) (by decide) rfl ?_
      refine gw_goto C 68 dX6_overClerks_64 (by decide) ?_
      refine gw_sub C [(0, .ref (ps_ad E 0)), (1, .int x1), (3, .int x3)] [0, 1, 3] rfl ?_
      exact bw_X6_overClerks_68 C RT M _ _ hr4 x1 x3 (1 : Int32) x2 ((hk.2 c46).2 c60)
def fv_X6_overClerks_4 : Nat → Int32 → Int32 → Int32 → ps_M → Int32
  | 0, _, _, _, M => 0
  | n + 1, x1, x2, x3, M => if (M 1 ((2 : Int32)).toNatClampNeg) ≤ x3 then x2 else (if x1 = 0 then (if (fv_X6_ofClerk x3 (2 : Int32) M) = (-1 : Int32) then (fv_X6_overClerks_41 (fun a1 a2 a3 M => fv_X6_overClerks_4 n a1 a2 a3 M) x1 x2 x3 (0 : Int32) M) else (fv_X6_overClerks_41 (fun a1 a2 a3 M => fv_X6_overClerks_4 n a1 a2 a3 M) x1 x2 x3 (1 : Int32) M)) else (fv_X6_overClerks_41 (fun a1 a2 a3 M => fv_X6_overClerks_4 n a1 a2 a3 M) x1 x2 x3 (fv_X6_isFree x3 M) M))
theorem fv_X6_overClerks_4_s (n : Nat) (x1 : Int32) (x2 : Int32) (x3 : Int32) (M : ps_M) : fv_X6_overClerks_4 (n + 1) x1 x2 x3 M = (if (M 1 ((2 : Int32)).toNatClampNeg) ≤ x3 then x2 else (if x1 = 0 then (if (fv_X6_ofClerk x3 (2 : Int32) M) = (-1 : Int32) then (fv_X6_overClerks_41 (fun a1 a2 a3 M => fv_X6_overClerks_4 n a1 a2 a3 M) x1 x2 x3 (0 : Int32) M) else (fv_X6_overClerks_41 (fun a1 a2 a3 M => fv_X6_overClerks_4 n a1 a2 a3 M) x1 x2 x3 (1 : Int32) M)) else (fv_X6_overClerks_41 (fun a1 a2 a3 M => fv_X6_overClerks_4 n a1 a2 a3 M) x1 x2 x3 (fv_X6_isFree x3 M) M))) := rfl
def ok_X6_overClerks_4 : Nat → Int32 → Int32 → Int32 → ps_M → Prop
  | 0, _, _, _, _ => False
  | n + 1, x1, x2, x3, M => (vp_in (2 : Int32) 237) ∧ (((M 1 ((2 : Int32)).toNatClampNeg) ≤ x3 → True) ∧ (¬ ((M 1 ((2 : Int32)).toNatClampNeg) ≤ x3) → ((x1 = 0 → ((ok_X6_ofClerk x3 (2 : Int32) M) ∧ (((fv_X6_ofClerk x3 (2 : Int32) M) = (-1 : Int32) → (ok_X6_overClerks_41 (fun a1 a2 a3 M => fv_X6_overClerks_4 n a1 a2 a3 M) (fun a1 a2 a3 M => ok_X6_overClerks_4 n a1 a2 a3 M) x1 x2 x3 (0 : Int32) M)) ∧ (¬ ((fv_X6_ofClerk x3 (2 : Int32) M) = (-1 : Int32)) → (ok_X6_overClerks_41 (fun a1 a2 a3 M => fv_X6_overClerks_4 n a1 a2 a3 M) (fun a1 a2 a3 M => ok_X6_overClerks_4 n a1 a2 a3 M) x1 x2 x3 (1 : Int32) M))))) ∧ (¬ (x1 = 0) → ((ok_X6_isFree x3 M) ∧ (ok_X6_overClerks_41 (fun a1 a2 a3 M => fv_X6_overClerks_4 n a1 a2 a3 M) (fun a1 a2 a3 M => ok_X6_overClerks_4 n a1 a2 a3 M) x1 x2 x3 (fv_X6_isFree x3 M) M))))))
theorem ok_X6_overClerks_4_s (n : Nat) (x1 : Int32) (x2 : Int32) (x3 : Int32) (M : ps_M) : ok_X6_overClerks_4 (n + 1) x1 x2 x3 M = ((vp_in (2 : Int32) 237) ∧ (((M 1 ((2 : Int32)).toNatClampNeg) ≤ x3 → True) ∧ (¬ ((M 1 ((2 : Int32)).toNatClampNeg) ≤ x3) → ((x1 = 0 → ((ok_X6_ofClerk x3 (2 : Int32) M) ∧ (((fv_X6_ofClerk x3 (2 : Int32) M) = (-1 : Int32) → (ok_X6_overClerks_41 (fun a1 a2 a3 M => fv_X6_overClerks_4 n a1 a2 a3 M) (fun a1 a2 a3 M => ok_X6_overClerks_4 n a1 a2 a3 M) x1 x2 x3 (0 : Int32) M)) ∧ (¬ ((fv_X6_ofClerk x3 (2 : Int32) M) = (-1 : Int32)) → (ok_X6_overClerks_41 (fun a1 a2 a3 M => fv_X6_overClerks_4 n a1 a2 a3 M) (fun a1 a2 a3 M => ok_X6_overClerks_4 n a1 a2 a3 M) x1 x2 x3 (1 : Int32) M))))) ∧ (¬ (x1 = 0) → ((ok_X6_isFree x3 M) ∧ (ok_X6_overClerks_41 (fun a1 a2 a3 M => fv_X6_overClerks_4 n a1 a2 a3 M) (fun a1 a2 a3 M => ok_X6_overClerks_4 n a1 a2 a3 M) x1 x2 x3 (fv_X6_isFree x3 M) M))))))) := rfl
set_option maxRecDepth 100000 in
set_option maxHeartbeats 4000000 in
theorem bw_X6_overClerks_4 {E : ps_E} {X : ps_X (Int32 × ps_M)} (C : ps_C (pm_Y E) X cX6_overClerks RX6 (some .int) 2 43 5) (RT : ps_RI (pm_Y E) X cX6_overClerks .int) (M : ps_M) : ∀ (n : Nat) (x1 : Int32) (x2 : Int32) (x3 : Int32), ok_X6_overClerks_4 n x1 x2 x3 M → ps_G (pm_Y E) X (fv_X6_overClerks_4 n x1 x2 x3 M, M) 4 [(0, .ref (ps_ad E 0)), (1, .int x1), (2, .int x2), (3, .int x3)] [] M := by
  intro n
  induction n with
  | zero => intro x1 x2 x3 h; exact h.elim
  | succ n ih =>
    intro x1 x2 x3 hk
    rw [fv_X6_overClerks_4_s]
    rw [ok_X6_overClerks_4_s] at hk
    refine gw_iload_n C 5 dX6_overClerks_4 3 rfl rfl ?_
    refine gw_aload_n C 6 dX6_overClerks_5 0 rfl rfl ?_
    refine gf_X6_7 C 9 dX6_overClerks_6 rfl ?_
    refine gw_iconst C 10 dX6_overClerks_9 (v := 2) (by decide) rfl ?_
    refine gm_ld C 11 dX6_overClerks_10 rfl (by decide) hk.1 ?_
    refine gw_ic_geP C 76 14 dX6_overClerks_11 (by decide) rfl (fun c11 => ?_) (fun c11 => ?_)
    · refine gw_iload_n C 77 dX6_overClerks_76 2 rfl rfl ?_
      exact RT _ _ _ _ dX6_overClerks_77 rfl
    · refine gw_iload_n C 15 dX6_overClerks_14 1 rfl rfl ?_
      refine gw_if_neP C 36 18 dX6_overClerks_15 (by decide) rfl (fun c15 => ?_) (fun c15 => ?_)
      · refine gw_aload_n C 19 dX6_overClerks_18 0 rfl rfl ?_
        refine gw_iload_n C 20 dX6_overClerks_19 3 rfl rfl ?_
        refine gw_iconst C 21 dX6_overClerks_20 (v := 2) (by decide) rfl ?_
        refine gw_cVp C 24 dX6_overClerks_21 rfl yv_X6_ofClerk lk_X6_58 [.int x3, .int (2 : Int32)] [] rfl (ct_X6_ofClerk (E := E) (l := ps_l X) x3 (2 : Int32) M ((hk.2.2 c11).1 c15).1) pm_recv rfl (Nat.le_of_ble_eq_true rfl) (Nat.le_of_ble_eq_true rfl) (Nat.le_of_ble_eq_true rfl) ?_
        refine gw_iconst C 25 dX6_overClerks_24 (v := (-1)) (by decide) rfl ?_
        refine gw_ic_eqP C 32 28 dX6_overClerks_25 (by decide) rfl (fun c25 => ?_) (fun c25 => ?_)
        · refine gw_iconst C 33 dX6_overClerks_32 (v := 0) (by decide) rfl ?_
          refine gw_goto C 41 dX6_overClerks_33 (by decide) ?_
          exact bw_X6_overClerks_41 C RT M _ _ (fun a1 a2 a3  h => ih a1 a2 a3  h) x1 x2 x3 (0 : Int32) (((hk.2.2 c11).1 c15).2.1 c25)
        · refine gw_iconst C 29 dX6_overClerks_28 (v := 1) (by decide) rfl ?_
          refine gw_goto C 41 dX6_overClerks_29 (by decide) ?_
          exact bw_X6_overClerks_41 C RT M _ _ (fun a1 a2 a3  h => ih a1 a2 a3  h) x1 x2 x3 (1 : Int32) (((hk.2.2 c11).1 c15).2.2 c25)
      · refine gw_aload_n C 37 dX6_overClerks_36 0 rfl rfl ?_
        refine gw_iload_n C 38 dX6_overClerks_37 3 rfl rfl ?_
        refine gw_cVp C 41 dX6_overClerks_38 rfl yv_X6_isFree lk_X6_61 [.int x3] [] rfl (ct_X6_isFree (E := E) (l := ps_l X) x3 M ((hk.2.2 c11).2 c15).1) pm_recv rfl (Nat.le_of_ble_eq_true rfl) (Nat.le_of_ble_eq_true rfl) (Nat.le_of_ble_eq_true rfl) ?_
        exact bw_X6_overClerks_41 C RT M _ _ (fun a1 a2 a3  h => ih a1 a2 a3  h) x1 x2 x3 (fv_X6_isFree x3 M) ((hk.2.2 c11).2 c15).2
def fv_X6_overClerks (x1 : Int32) (M : ps_M) : Int32 := fv_X6_overClerks_4 ps_FU x1 (0 : Int32) (0 : Int32) M
def ok_X6_overClerks (x1 : Int32) (M : ps_M) : Prop := ok_X6_overClerks_4 ps_FU x1 (0 : Int32) (0 : Int32) M
set_option maxRecDepth 100000 in
set_option maxHeartbeats 4000000 in
theorem bw_X6_overClerks {E : ps_E} {X : ps_X (Int32 × ps_M)} (C : ps_C (pm_Y E) X cX6_overClerks RX6 (some .int) 2 43 5) (RT : ps_RI (pm_Y E) X cX6_overClerks .int) (M : ps_M) (x1 : Int32) (hk : ok_X6_overClerks x1 M) : ps_G (pm_Y E) X (fv_X6_overClerks x1 M, M) 0 [(0, .ref (ps_ad E 0)), (1, .int x1)] [] M := by
  unfold fv_X6_overClerks
  unfold ok_X6_overClerks at hk
  refine gw_iconst C 1 dX6_overClerks_0 (v := 0) (by decide) rfl ?_
  refine gw_istore_n C 2 dX6_overClerks_1 rfl [(0, .ref (ps_ad E 0)), (1, .int x1), (2, .int (0 : Int32))] [1, 2, 0] (by decide) rfl ?_
  refine gw_iconst C 3 dX6_overClerks_2 (v := 0) (by decide) rfl ?_
  refine gw_istore_n C 4 dX6_overClerks_3 rfl [(0, .ref (ps_ad E 0)), (1, .int x1), (2, .int (0 : Int32)), (3, .int (0 : Int32))] [1, 2, 3, 0] (by decide) rfl ?_
  exact bw_X6_overClerks_4 C RT M  ps_FU x1 (0 : Int32) (0 : Int32) hk
theorem ct_X6_overClerks {E : ps_E} {l : Launch} (x1 : Int32)  (M : ps_M) (hk : ok_X6_overClerks x1 M) : ps_CI (pm_Y E) l yX6_overClerks cX6_overClerks 5 (some .int) 2 43 [.ref (ps_ad E 0), .int x1] M (fv_X6_overClerks x1 M, M) := ps_metI RX6 (by decide) rfl (Nat.le_of_ble_eq_true rfl) rfl (fun X _ C RT => bw_X6_overClerks C RT M x1 hk)
def fv_X6_count (x1 : Int32) (M : ps_M) : Int32 := if x1 = (0 : Int32) then ((M 1 (x1).toNatClampNeg)) else (if x1 = (1 : Int32) then ((M 1 (x1).toNatClampNeg)) else (if x1 = (2 : Int32) then ((M 1 (x1).toNatClampNeg)) else (if x1 = (3 : Int32) then ((fv_X6_overClerks (x1 - (3 : Int32)) M)) else (if x1 = (4 : Int32) then ((fv_X6_overClerks (x1 - (3 : Int32)) M)) else (if x1 = (5 : Int32) then ((fv_X6_overStations (0 : Int32) M)) else (if x1 = (6 : Int32) then ((fv_X6_overStations (2 : Int32) M)) else (if x1 = (7 : Int32) then ((fv_X6_overStations (4 : Int32) M)) else (if x1 = (8 : Int32) then ((fv_X6_overStations (5 : Int32) M)) else (if x1 = (9 : Int32) then ((fv_X6_overStations (9 : Int32) M)) else (if x1 = (10 : Int32) then (if x1 = (10 : Int32) then ((fv_X6_countedAs (1 : Int32) M)) else ((fv_X6_countedAs (0 : Int32) M))) else (if x1 = (11 : Int32) then (if x1 = (10 : Int32) then ((fv_X6_countedAs (1 : Int32) M)) else ((fv_X6_countedAs (0 : Int32) M))) else (if x1 = (12 : Int32) then ((fv_X6_overStations (3 : Int32) M)) else (if x1 = (13 : Int32) then ((fv_X6_overClerks (2 : Int32) M)) else (if x1 = (14 : Int32) then ((M 0 2)) else (if x1 = (15 : Int32) then ((M 0 7)) else ((-2 : Int32)))))))))))))))))
def ok_X6_count (x1 : Int32) (M : ps_M) : Prop := (x1 = (0 : Int32) → ((vp_in x1 237) ∧ True)) ∧ (¬ (x1 = (0 : Int32)) → ((x1 = (1 : Int32) → ((vp_in x1 237) ∧ True)) ∧ (¬ (x1 = (1 : Int32)) → ((x1 = (2 : Int32) → ((vp_in x1 237) ∧ True)) ∧ (¬ (x1 = (2 : Int32)) → ((x1 = (3 : Int32) → ((ok_X6_overClerks (x1 - (3 : Int32)) M) ∧ True)) ∧ (¬ (x1 = (3 : Int32)) → ((x1 = (4 : Int32) → ((ok_X6_overClerks (x1 - (3 : Int32)) M) ∧ True)) ∧ (¬ (x1 = (4 : Int32)) → ((x1 = (5 : Int32) → ((ok_X6_overStations (0 : Int32) M) ∧ True)) ∧ (¬ (x1 = (5 : Int32)) → ((x1 = (6 : Int32) → ((ok_X6_overStations (2 : Int32) M) ∧ True)) ∧ (¬ (x1 = (6 : Int32)) → ((x1 = (7 : Int32) → ((ok_X6_overStations (4 : Int32) M) ∧ True)) ∧ (¬ (x1 = (7 : Int32)) → ((x1 = (8 : Int32) → ((ok_X6_overStations (5 : Int32) M) ∧ True)) ∧ (¬ (x1 = (8 : Int32)) → ((x1 = (9 : Int32) → ((ok_X6_overStations (9 : Int32) M) ∧ True)) ∧ (¬ (x1 = (9 : Int32)) → ((x1 = (10 : Int32) → ((x1 = (10 : Int32) → ((ok_X6_countedAs (1 : Int32) M) ∧ True)) ∧ (¬ (x1 = (10 : Int32)) → ((ok_X6_countedAs (0 : Int32) M) ∧ True)))) ∧ (¬ (x1 = (10 : Int32)) → ((x1 = (11 : Int32) → ((x1 = (10 : Int32) → ((ok_X6_countedAs (1 : Int32) M) ∧ True)) ∧ (¬ (x1 = (10 : Int32)) → ((ok_X6_countedAs (0 : Int32) M) ∧ True)))) ∧ (¬ (x1 = (11 : Int32)) → ((x1 = (12 : Int32) → ((ok_X6_overStations (3 : Int32) M) ∧ True)) ∧ (¬ (x1 = (12 : Int32)) → ((x1 = (13 : Int32) → ((ok_X6_overClerks (2 : Int32) M) ∧ True)) ∧ (¬ (x1 = (13 : Int32)) → ((x1 = (14 : Int32) → True) ∧ (¬ (x1 = (14 : Int32)) → ((x1 = (15 : Int32) → True) ∧ (¬ (x1 = (15 : Int32)) → True)))))))))))))))))))))))))))))))
set_option maxRecDepth 100000 in
set_option maxHeartbeats 4000000 in
theorem bw_X6_count {E : ps_E} {X : ps_X (Int32 × ps_M)} (C : ps_C (pm_Y E) X cX6_count RX6 (some .int) 3 67 2) (RT : ps_RI (pm_Y E) X cX6_count .int) (M : ps_M) (x1 : Int32) (hk : ok_X6_count x1 M) : ps_G (pm_Y E) X (fv_X6_count x1 M, M) 0 [(0, .ref (ps_ad E 0)), (1, .int x1)] [] M := by
  unfold fv_X6_count
  unfold ok_X6_count at hk
  refine gw_iload_n C 1 dX6_count_0 1 rfl rfl ?_
  refine gw_caseP C (0 : Int32) (fun c1_0 => ?_) (fun c1_0 => ?_)
  · refine gw_tin C 80 (0) (79) c1_0 (by decide) dX6_count_1 (by decide) (by decide) (by decide +kernel) (by decide) ?_
    refine gw_aload_n C 81 dX6_count_80 0 rfl rfl ?_
    refine gf_X6_7 C 84 dX6_count_81 rfl ?_
    refine gw_iload_n C 85 dX6_count_84 1 rfl rfl ?_
    refine gm_ld C 86 dX6_count_85 rfl (by decide) (hk.1 c1_0).1 ?_
    exact RT _ _ _ _ dX6_count_86 rfl
  refine gw_caseP C (1 : Int32) (fun c1_1 => ?_) (fun c1_1 => ?_)
  · refine gw_tin C 80 (1) (79) c1_1 (by decide) dX6_count_1 (by decide) (by decide) (by decide +kernel) (by decide) ?_
    refine gw_aload_n C 81 dX6_count_80 0 rfl rfl ?_
    refine gf_X6_7 C 84 dX6_count_81 rfl ?_
    refine gw_iload_n C 85 dX6_count_84 1 rfl rfl ?_
    refine gm_ld C 86 dX6_count_85 rfl (by decide) ((hk.2 c1_0).1 c1_1).1 ?_
    exact RT _ _ _ _ dX6_count_86 rfl
  refine gw_caseP C (2 : Int32) (fun c1_2 => ?_) (fun c1_2 => ?_)
  · refine gw_tin C 80 (2) (79) c1_2 (by decide) dX6_count_1 (by decide) (by decide) (by decide +kernel) (by decide) ?_
    refine gw_aload_n C 81 dX6_count_80 0 rfl rfl ?_
    refine gf_X6_7 C 84 dX6_count_81 rfl ?_
    refine gw_iload_n C 85 dX6_count_84 1 rfl rfl ?_
    refine gm_ld C 86 dX6_count_85 rfl (by decide) (((hk.2 c1_0).2 c1_1).1 c1_2).1 ?_
    exact RT _ _ _ _ dX6_count_86 rfl
  refine gw_caseP C (3 : Int32) (fun c1_3 => ?_) (fun c1_3 => ?_)
  · refine gw_tin C 87 (3) (86) c1_3 (by decide) dX6_count_1 (by decide) (by decide) (by decide +kernel) (by decide) ?_
    refine gw_aload_n C 88 dX6_count_87 0 rfl rfl ?_
    refine gw_iload_n C 89 dX6_count_88 1 rfl rfl ?_
    refine gw_iconst C 90 dX6_count_89 (v := 3) (by decide) rfl ?_
    refine gw_isub C 91 dX6_count_90 rfl ?_
    refine gw_cVp C 94 dX6_count_91 rfl yv_X6_overClerks lk_X6_122 [.int (x1 - (3 : Int32))] [] rfl (ct_X6_overClerks (E := E) (l := ps_l X) (x1 - (3 : Int32)) M ((((hk.2 c1_0).2 c1_1).2 c1_2).1 c1_3).1) pm_recv rfl (Nat.le_of_ble_eq_true rfl) (Nat.le_of_ble_eq_true rfl) (Nat.le_of_ble_eq_true rfl) ?_
    exact RT _ _ _ _ dX6_count_94 rfl
  refine gw_caseP C (4 : Int32) (fun c1_4 => ?_) (fun c1_4 => ?_)
  · refine gw_tin C 87 (4) (86) c1_4 (by decide) dX6_count_1 (by decide) (by decide) (by decide +kernel) (by decide) ?_
    refine gw_aload_n C 88 dX6_count_87 0 rfl rfl ?_
    refine gw_iload_n C 89 dX6_count_88 1 rfl rfl ?_
    refine gw_iconst C 90 dX6_count_89 (v := 3) (by decide) rfl ?_
    refine gw_isub C 91 dX6_count_90 rfl ?_
    refine gw_cVp C 94 dX6_count_91 rfl yv_X6_overClerks lk_X6_122 [.int (x1 - (3 : Int32))] [] rfl (ct_X6_overClerks (E := E) (l := ps_l X) (x1 - (3 : Int32)) M (((((hk.2 c1_0).2 c1_1).2 c1_2).2 c1_3).1 c1_4).1) pm_recv rfl (Nat.le_of_ble_eq_true rfl) (Nat.le_of_ble_eq_true rfl) (Nat.le_of_ble_eq_true rfl) ?_
    exact RT _ _ _ _ dX6_count_94 rfl
  refine gw_caseP C (5 : Int32) (fun c1_5 => ?_) (fun c1_5 => ?_)
  · refine gw_tin C 95 (5) (94) c1_5 (by decide) dX6_count_1 (by decide) (by decide) (by decide +kernel) (by decide) ?_
    refine gw_aload_n C 96 dX6_count_95 0 rfl rfl ?_
    refine gw_iconst C 97 dX6_count_96 (v := 0) (by decide) rfl ?_
    refine gw_cVp C 100 dX6_count_97 rfl yv_X6_overStations lk_X6_125 [.int (0 : Int32)] [] rfl (ct_X6_overStations (E := E) (l := ps_l X) (0 : Int32) M ((((((hk.2 c1_0).2 c1_1).2 c1_2).2 c1_3).2 c1_4).1 c1_5).1) pm_recv rfl (Nat.le_of_ble_eq_true rfl) (Nat.le_of_ble_eq_true rfl) (Nat.le_of_ble_eq_true rfl) ?_
    exact RT _ _ _ _ dX6_count_100 rfl
  refine gw_caseP C (6 : Int32) (fun c1_6 => ?_) (fun c1_6 => ?_)
  · refine gw_tin C 101 (6) (100) c1_6 (by decide) dX6_count_1 (by decide) (by decide) (by decide +kernel) (by decide) ?_
    refine gw_aload_n C 102 dX6_count_101 0 rfl rfl ?_
    refine gw_iconst C 103 dX6_count_102 (v := 2) (by decide) rfl ?_
    refine gw_cVp C 106 dX6_count_103 rfl yv_X6_overStations lk_X6_125 [.int (2 : Int32)] [] rfl (ct_X6_overStations (E := E) (l := ps_l X) (2 : Int32) M (((((((hk.2 c1_0).2 c1_1).2 c1_2).2 c1_3).2 c1_4).2 c1_5).1 c1_6).1) pm_recv rfl (Nat.le_of_ble_eq_true rfl) (Nat.le_of_ble_eq_true rfl) (Nat.le_of_ble_eq_true rfl) ?_
    exact RT _ _ _ _ dX6_count_106 rfl
  refine gw_caseP C (7 : Int32) (fun c1_7 => ?_) (fun c1_7 => ?_)
  · refine gw_tin C 107 (7) (106) c1_7 (by decide) dX6_count_1 (by decide) (by decide) (by decide +kernel) (by decide) ?_
    refine gw_aload_n C 108 dX6_count_107 0 rfl rfl ?_
    refine gw_iconst C 109 dX6_count_108 (v := 4) (by decide) rfl ?_
    refine gw_cVp C 112 dX6_count_109 rfl yv_X6_overStations lk_X6_125 [.int (4 : Int32)] [] rfl (ct_X6_overStations (E := E) (l := ps_l X) (4 : Int32) M ((((((((hk.2 c1_0).2 c1_1).2 c1_2).2 c1_3).2 c1_4).2 c1_5).2 c1_6).1 c1_7).1) pm_recv rfl (Nat.le_of_ble_eq_true rfl) (Nat.le_of_ble_eq_true rfl) (Nat.le_of_ble_eq_true rfl) ?_
    exact RT _ _ _ _ dX6_count_112 rfl
  refine gw_caseP C (8 : Int32) (fun c1_8 => ?_) (fun c1_8 => ?_)
  · refine gw_tin C 113 (8) (112) c1_8 (by decide) dX6_count_1 (by decide) (by decide) (by decide +kernel) (by decide) ?_
    refine gw_aload_n C 114 dX6_count_113 0 rfl rfl ?_
    refine gw_iconst C 115 dX6_count_114 (v := 5) (by decide) rfl ?_
    refine gw_cVp C 118 dX6_count_115 rfl yv_X6_overStations lk_X6_125 [.int (5 : Int32)] [] rfl (ct_X6_overStations (E := E) (l := ps_l X) (5 : Int32) M (((((((((hk.2 c1_0).2 c1_1).2 c1_2).2 c1_3).2 c1_4).2 c1_5).2 c1_6).2 c1_7).1 c1_8).1) pm_recv rfl (Nat.le_of_ble_eq_true rfl) (Nat.le_of_ble_eq_true rfl) (Nat.le_of_ble_eq_true rfl) ?_
    exact RT _ _ _ _ dX6_count_118 rfl
  refine gw_caseP C (9 : Int32) (fun c1_9 => ?_) (fun c1_9 => ?_)
  · refine gw_tin C 119 (9) (118) c1_9 (by decide) dX6_count_1 (by decide) (by decide) (by decide +kernel) (by decide) ?_
    refine gw_aload_n C 120 dX6_count_119 0 rfl rfl ?_
    refine gw_bipush C 122 dX6_count_120 (v := 9) (by decide) rfl ?_
    refine gw_cVp C 125 dX6_count_122 rfl yv_X6_overStations lk_X6_125 [.int (9 : Int32)] [] rfl (ct_X6_overStations (E := E) (l := ps_l X) (9 : Int32) M ((((((((((hk.2 c1_0).2 c1_1).2 c1_2).2 c1_3).2 c1_4).2 c1_5).2 c1_6).2 c1_7).2 c1_8).1 c1_9).1) pm_recv rfl (Nat.le_of_ble_eq_true rfl) (Nat.le_of_ble_eq_true rfl) (Nat.le_of_ble_eq_true rfl) ?_
    exact RT _ _ _ _ dX6_count_125 rfl
  refine gw_caseP C (10 : Int32) (fun c1_10 => ?_) (fun c1_10 => ?_)
  · refine gw_tin C 126 (10) (125) c1_10 (by decide) dX6_count_1 (by decide) (by decide) (by decide +kernel) (by decide) ?_
    refine gw_aload_n C 127 dX6_count_126 0 rfl rfl ?_
    refine gw_iload_n C 128 dX6_count_127 1 rfl rfl ?_
    refine gw_bipush C 130 dX6_count_128 (v := 10) (by decide) rfl ?_
    refine gw_ic_neP C 137 133 dX6_count_130 (by decide) rfl (fun c130 => ?_) (fun c130 => ?_)
    · refine gw_iconst C 134 dX6_count_133 (v := 1) (by decide) rfl ?_
      refine gw_goto C 138 dX6_count_134 (by decide) ?_
      refine gw_cVp C 141 dX6_count_138 rfl yv_X6_countedAs lk_X6_128 [.int (1 : Int32)] [] rfl (ct_X6_countedAs (E := E) (l := ps_l X) (1 : Int32) M ((((((((((((hk.2 c1_0).2 c1_1).2 c1_2).2 c1_3).2 c1_4).2 c1_5).2 c1_6).2 c1_7).2 c1_8).2 c1_9).1 c1_10).1 c130).1) pm_recv rfl (Nat.le_of_ble_eq_true rfl) (Nat.le_of_ble_eq_true rfl) (Nat.le_of_ble_eq_true rfl) ?_
      exact RT _ _ _ _ dX6_count_141 rfl
    · refine gw_iconst C 138 dX6_count_137 (v := 0) (by decide) rfl ?_
      refine gw_cVp C 141 dX6_count_138 rfl yv_X6_countedAs lk_X6_128 [.int (0 : Int32)] [] rfl (ct_X6_countedAs (E := E) (l := ps_l X) (0 : Int32) M ((((((((((((hk.2 c1_0).2 c1_1).2 c1_2).2 c1_3).2 c1_4).2 c1_5).2 c1_6).2 c1_7).2 c1_8).2 c1_9).1 c1_10).2 c130).1) pm_recv rfl (Nat.le_of_ble_eq_true rfl) (Nat.le_of_ble_eq_true rfl) (Nat.le_of_ble_eq_true rfl) ?_
      exact RT _ _ _ _ dX6_count_141 rfl
  refine gw_caseP C (11 : Int32) (fun c1_11 => ?_) (fun c1_11 => ?_)
  · refine gw_tin C 126 (11) (125) c1_11 (by decide) dX6_count_1 (by decide) (by decide) (by decide +kernel) (by decide) ?_
    refine gw_aload_n C 127 dX6_count_126 0 rfl rfl ?_
    refine gw_iload_n C 128 dX6_count_127 1 rfl rfl ?_
    refine gw_bipush C 130 dX6_count_128 (v := 10) (by decide) rfl ?_
    refine gw_ic_neP C 137 133 dX6_count_130 (by decide) rfl (fun c130 => ?_) (fun c130 => ?_)
    · refine gw_iconst C 134 dX6_count_133 (v := 1) (by decide) rfl ?_
      refine gw_goto C 138 dX6_count_134 (by decide) ?_
      refine gw_cVp C 141 dX6_count_138 rfl yv_X6_countedAs lk_X6_128 [.int (1 : Int32)] [] rfl (ct_X6_countedAs (E := E) (l := ps_l X) (1 : Int32) M (((((((((((((hk.2 c1_0).2 c1_1).2 c1_2).2 c1_3).2 c1_4).2 c1_5).2 c1_6).2 c1_7).2 c1_8).2 c1_9).2 c1_10).1 c1_11).1 c130).1) pm_recv rfl (Nat.le_of_ble_eq_true rfl) (Nat.le_of_ble_eq_true rfl) (Nat.le_of_ble_eq_true rfl) ?_
      exact RT _ _ _ _ dX6_count_141 rfl
    · refine gw_iconst C 138 dX6_count_137 (v := 0) (by decide) rfl ?_
      refine gw_cVp C 141 dX6_count_138 rfl yv_X6_countedAs lk_X6_128 [.int (0 : Int32)] [] rfl (ct_X6_countedAs (E := E) (l := ps_l X) (0 : Int32) M (((((((((((((hk.2 c1_0).2 c1_1).2 c1_2).2 c1_3).2 c1_4).2 c1_5).2 c1_6).2 c1_7).2 c1_8).2 c1_9).2 c1_10).1 c1_11).2 c130).1) pm_recv rfl (Nat.le_of_ble_eq_true rfl) (Nat.le_of_ble_eq_true rfl) (Nat.le_of_ble_eq_true rfl) ?_
      exact RT _ _ _ _ dX6_count_141 rfl
  refine gw_caseP C (12 : Int32) (fun c1_12 => ?_) (fun c1_12 => ?_)
  · refine gw_tin C 142 (12) (141) c1_12 (by decide) dX6_count_1 (by decide) (by decide) (by decide +kernel) (by decide) ?_
    refine gw_aload_n C 143 dX6_count_142 0 rfl rfl ?_
    refine gw_iconst C 144 dX6_count_143 (v := 3) (by decide) rfl ?_
    refine gw_cVp C 147 dX6_count_144 rfl yv_X6_overStations lk_X6_125 [.int (3 : Int32)] [] rfl (ct_X6_overStations (E := E) (l := ps_l X) (3 : Int32) M (((((((((((((hk.2 c1_0).2 c1_1).2 c1_2).2 c1_3).2 c1_4).2 c1_5).2 c1_6).2 c1_7).2 c1_8).2 c1_9).2 c1_10).2 c1_11).1 c1_12).1) pm_recv rfl (Nat.le_of_ble_eq_true rfl) (Nat.le_of_ble_eq_true rfl) (Nat.le_of_ble_eq_true rfl) ?_
    exact RT _ _ _ _ dX6_count_147 rfl
  refine gw_caseP C (13 : Int32) (fun c1_13 => ?_) (fun c1_13 => ?_)
  · refine gw_tin C 148 (13) (147) c1_13 (by decide) dX6_count_1 (by decide) (by decide) (by decide +kernel) (by decide) ?_
    refine gw_aload_n C 149 dX6_count_148 0 rfl rfl ?_
    refine gw_iconst C 150 dX6_count_149 (v := 2) (by decide) rfl ?_
    refine gw_cVp C 153 dX6_count_150 rfl yv_X6_overClerks lk_X6_122 [.int (2 : Int32)] [] rfl (ct_X6_overClerks (E := E) (l := ps_l X) (2 : Int32) M ((((((((((((((hk.2 c1_0).2 c1_1).2 c1_2).2 c1_3).2 c1_4).2 c1_5).2 c1_6).2 c1_7).2 c1_8).2 c1_9).2 c1_10).2 c1_11).2 c1_12).1 c1_13).1) pm_recv rfl (Nat.le_of_ble_eq_true rfl) (Nat.le_of_ble_eq_true rfl) (Nat.le_of_ble_eq_true rfl) ?_
    exact RT _ _ _ _ dX6_count_153 rfl
  refine gw_caseP C (14 : Int32) (fun c1_14 => ?_) (fun c1_14 => ?_)
  · refine gw_tin C 154 (14) (153) c1_14 (by decide) dX6_count_1 (by decide) (by decide) (by decide +kernel) (by decide) ?_
    refine gw_aload_n C 155 dX6_count_154 0 rfl rfl ?_
    refine gf_X6_28 C 158 dX6_count_155 rfl ?_
    exact RT _ _ _ _ dX6_count_158 rfl
  refine gw_caseP C (15 : Int32) (fun c1_15 => ?_) (fun c1_15 => ?_)
  · refine gw_tin C 159 (15) (158) c1_15 (by decide) dX6_count_1 (by decide) (by decide) (by decide +kernel) (by decide) ?_
    refine gw_aload_n C 160 dX6_count_159 0 rfl rfl ?_
    refine gf_X6_98 C 163 dX6_count_160 rfl ?_
    exact RT _ _ _ _ dX6_count_163 rfl
  refine gw_tout C 164 dX6_count_1 (by have e0 := ps_ne_int c1_0 (z := 0) (by decide); have e1 := ps_ne_int c1_1 (z := 1) (by decide); have e2 := ps_ne_int c1_2 (z := 2) (by decide); have e3 := ps_ne_int c1_3 (z := 3) (by decide); have e4 := ps_ne_int c1_4 (z := 4) (by decide); have e5 := ps_ne_int c1_5 (z := 5) (by decide); have e6 := ps_ne_int c1_6 (z := 6) (by decide); have e7 := ps_ne_int c1_7 (z := 7) (by decide); have e8 := ps_ne_int c1_8 (z := 8) (by decide); have e9 := ps_ne_int c1_9 (z := 9) (by decide); have e10 := ps_ne_int c1_10 (z := 10) (by decide); have e11 := ps_ne_int c1_11 (z := 11) (by decide); have e12 := ps_ne_int c1_12 (z := 12) (by decide); have e13 := ps_ne_int c1_13 (z := 13) (by decide); have e14 := ps_ne_int c1_14 (z := 14) (by decide); have e15 := ps_ne_int c1_15 (z := 15) (by decide); omega) (by decide) ?_
  refine gw_bipush C 166 dX6_count_164 (v := (-2)) (by decide) rfl ?_
  exact RT _ _ _ _ dX6_count_166 rfl
theorem ct_X6_count {E : ps_E} {l : Launch} (x1 : Int32)  (M : ps_M) (hk : ok_X6_count x1 M) : ps_CI (pm_Y E) l yX6_count cX6_count 2 (some .int) 3 67 [.ref (ps_ad E 0), .int x1] M (fv_X6_count x1 M, M) := ps_metI RX6 (by decide) rfl (Nat.le_of_ble_eq_true rfl) rfl (fun X _ C RT => bw_X6_count C RT M x1 hk)
