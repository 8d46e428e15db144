def fv_X0_isDigit (x0 : Int32) (M : ps_M) : Int32 := if x0 < (48 : Int32) then ((0 : Int32)) else (if (57 : Int32) < x0 then ((0 : Int32)) else ((1 : Int32)))
def ok_X0_isDigit (x0 : Int32) (M : ps_M) : Prop := True
set_option maxRecDepth 100000 in
set_option maxHeartbeats 4000000 in
theorem bw_X0_isDigit {E : ps_E} {X : ps_X (Int32 × ps_M)} (C : ps_C (ps_Yc E) X cX0_isDigit RX0 (some .boolean) 0 0 1) (RT : ps_RI (ps_Yc E) X cX0_isDigit .boolean) (M : ps_M) (x0 : Int32) (hk : ok_X0_isDigit x0 M) : ps_G (ps_Yc E) X (fv_X0_isDigit x0 M, M) 0 [(0, .int x0)] [] M := by
  unfold fv_X0_isDigit
  unfold ok_X0_isDigit at hk
  refine gw_iload_n C 1 dX0_isDigit_0 0 rfl rfl ?_
  refine gw_bipush C 3 dX0_isDigit_1 (v := 48) (by decide) rfl ?_
  refine gw_ic_ltP C 16 6 dX0_isDigit_3 (by decide) rfl (fun c3 => ?_) (fun c3 => ?_)
  · refine gw_iconst C 17 dX0_isDigit_16 (v := 0) (by decide) rfl ?_
    exact RT _ _ _ _ dX0_isDigit_17 ps_nb0
  · refine gw_iload_n C 7 dX0_isDigit_6 0 rfl rfl ?_
    refine gw_bipush C 9 dX0_isDigit_7 (v := 57) (by decide) rfl ?_
    refine gw_ic_gtP C 16 12 dX0_isDigit_9 (by decide) rfl (fun c9 => ?_) (fun c9 => ?_)
    · refine gw_iconst C 17 dX0_isDigit_16 (v := 0) (by decide) rfl ?_
      exact RT _ _ _ _ dX0_isDigit_17 ps_nb0
    · refine gw_iconst C 13 dX0_isDigit_12 (v := 1) (by decide) rfl ?_
      refine gw_goto C 17 dX0_isDigit_13 (by decide) ?_
      exact RT _ _ _ _ dX0_isDigit_17 ps_nb1
theorem ct_X0_isDigit {E : ps_E} {l : Launch} (x0 : Int32)  (M : ps_M) (hk : ok_X0_isDigit x0 M) : ps_CI (ps_Yc E) l yX0_isDigit cX0_isDigit 1 (some .boolean) 0 0 [.int x0] M (fv_X0_isDigit x0 M, M) := ps_metI RX0 (by decide) rfl (Nat.le_of_ble_eq_true rfl) rfl (fun X _ C RT => bw_X0_isDigit C RT M x0 hk)
def fv_X0_fault_57 (rec6 : Int32 → Int32 → Int32 → ps_M → Int32) (x1 : Int32) (x3 : Int32) (s0 : Int32) (M : ps_M) : Int32 := rec6 (x1 + (1 : Int32)) s0 (x3 + (1 : Int32)) M
def ok_X0_fault_57 (rec6 : Int32 → Int32 → Int32 → ps_M → Int32) (okr6 : Int32 → Int32 → Int32 → ps_M → Prop) (x1 : Int32) (x3 : Int32) (s0 : Int32) (M : ps_M) : Prop := okr6 (x1 + (1 : Int32)) s0 (x3 + (1 : Int32)) M
set_option maxRecDepth 100000 in
set_option maxHeartbeats 4000000 in
theorem bw_X0_fault_57 {E : ps_E} {X : ps_X (Int32 × ps_M)} (C : ps_C (ps_Yc E) X cX0_fault RX0 (some .int) 1 20 5) (RT : ps_RI (ps_Yc E) X cX0_fault .int) (M : ps_M) (rec6 : Int32 → Int32 → Int32 → ps_M → Int32) (okr6 : Int32 → Int32 → Int32 → ps_M → Prop) (hr6 : ∀ (x1 : Int32) (x2 : Int32) (x3 : Int32), okr6 x1 x2 x3 M → ps_G (ps_Yc E) X (rec6 x1 x2 x3 M, M) 6 [(0, .ref (ps_ad E 194)), (1, .int x1), (2, .int x2), (3, .int x3)] [] M) (x1 : Int32) (x3 : Int32) (s0 : Int32) (hk : ok_X0_fault_57 rec6 okr6 x1 x3 s0 M) : ps_G (ps_Yc E) X (fv_X0_fault_57 rec6 x1 x3 s0 M, M) 57 [(0, .ref (ps_ad E 194)), (1, .int x1), (3, .int x3)] [.int s0] M := by
  unfold fv_X0_fault_57
  unfold ok_X0_fault_57 at hk
  refine gw_istore_n C 58 dX0_fault_57 rfl [(0, .ref (ps_ad E 194)), (1, .int x1), (2, .int s0), (3, .int x3)] [1, 2, 0, 3] (by decide) rfl ?_
  refine gw_iinc C 61 dX0_fault_58 rfl (y := 1) (by decide) rfl 1 rfl [(0, .ref (ps_ad E 194)), (1, .int (x1 + (1 : Int32))), (2, .int s0), (3, .int x3)] [1, 0, 2, 3] (by decide) rfl ?_
  refine gw_goto C 81 dX0_fault_61 (by decide) ?_
  refine gw_iinc C 84 dX0_fault_81 rfl (y := 1) (by decide) rfl 3 rfl [(0, .ref (ps_ad E 194)), (1, .int (x1 + (1 : Int32))), (2, .int s0), (3, .int (x3 + (1 : Int32)))] [1, 2, 3, 0] (by decide) rfl ?_
  refine gw_goto C 6 dX0_fault_84 (by decide) ?_
  exact hr6 (x1 + (1 : Int32)) s0 (x3 + (1 : Int32)) hk
def fv_X0_fault_56 (rec6 : Int32 → Int32 → Int32 → ps_M → Int32) (x1 : Int32) (x3 : Int32) (M : ps_M) : Int32 := fv_X0_fault_57 rec6 x1 x3 (0 : Int32) M
def ok_X0_fault_56 (rec6 : Int32 → Int32 → Int32 → ps_M → Int32) (okr6 : Int32 → Int32 → Int32 → ps_M → Prop) (x1 : Int32) (x3 : Int32) (M : ps_M) : Prop := ok_X0_fault_57 rec6 okr6 x1 x3 (0 : Int32) M
set_option maxRecDepth 100000 in
set_option maxHeartbeats 4000000 in
theorem bw_X0_fault_56 {E : ps_E} {X : ps_X (Int32 × ps_M)} (C : ps_C (ps_Yc E) X cX0_fault RX0 (some .int) 1 20 5) (RT : ps_RI (ps_Yc E) X cX0_fault .int) (M : ps_M) (rec6 : Int32 → Int32 → Int32 → ps_M → Int32) (okr6 : Int32 → Int32 → Int32 → ps_M → Prop) (hr6 : ∀ (x1 : Int32) (x2 : Int32) (x3 : Int32), okr6 x1 x2 x3 M → ps_G (ps_Yc E) X (rec6 x1 x2 x3 M, M) 6 [(0, .ref (ps_ad E 194)), (1, .int x1), (2, .int x2), (3, .int x3)] [] M) (x1 : Int32) (x3 : Int32) (hk : ok_X0_fault_56 rec6 okr6 x1 x3 M) : ps_G (ps_Yc E) X (fv_X0_fault_56 rec6 x1 x3 M, M) 56 [(0, .ref (ps_ad E 194)), (1, .int x1), (3, .int x3)] [] M := by
  unfold fv_X0_fault_56
  unfold ok_X0_fault_56 at hk
  refine gw_iconst C 57 dX0_fault_56 (v := 0) (by decide) rfl ?_
  exact bw_X0_fault_57 C RT M _ _ hr6 x1 x3 (0 : Int32) hk
def fv_X0_fault_6 : Nat → Int32 → Int32 → Int32 → ps_M → Int32
  | 0, _, _, _, M => 0
  | n + 1, x1, x2, x3, M => if (M 194 2) ≤ x3 then (if x1 = 0 then ((M 194 2)) else ((-1 : Int32))) else (if (fv_X0_isDigit (M 195 (x3).toNatClampNeg) M) = 0 then (if (M 195 (x3).toNatClampNeg) = (44 : Int32) then (if x1 = 0 then x3 else (fv_X0_fault_6 n (0 : Int32) (0 : Int32) (x3 + (1 : Int32)) M)) else x3) else (if x1 = (3 : Int32) then x3 else (if x2 = 0 then (if x1 = 0 then (if (M 195 (x3).toNatClampNeg) = (48 : Int32) then (fv_X0_fault_57 (fun a1 a2 a3 M => fv_X0_fault_6 n a1 a2 a3 M) x1 x3 (1 : Int32) M) else (fv_X0_fault_56 (fun a1 a2 a3 M => fv_X0_fault_6 n a1 a2 a3 M) x1 x3 M)) else (fv_X0_fault_56 (fun a1 a2 a3 M => fv_X0_fault_6 n a1 a2 a3 M) x1 x3 M)) else x3)))
theorem fv_X0_fault_6_s (n : Nat) (x1 : Int32) (x2 : Int32) (x3 : Int32) (M : ps_M) : fv_X0_fault_6 (n + 1) x1 x2 x3 M = (if (M 194 2) ≤ x3 then (if x1 = 0 then ((M 194 2)) else ((-1 : Int32))) else (if (fv_X0_isDigit (M 195 (x3).toNatClampNeg) M) = 0 then (if (M 195 (x3).toNatClampNeg) = (44 : Int32) then (if x1 = 0 then x3 else (fv_X0_fault_6 n (0 : Int32) (0 : Int32) (x3 + (1 : Int32)) M)) else x3) else (if x1 = (3 : Int32) then x3 else (if x2 = 0 then (if x1 = 0 then (if (M 195 (x3).toNatClampNeg) = (48 : Int32) then (fv_X0_fault_57 (fun a1 a2 a3 M => fv_X0_fault_6 n a1 a2 a3 M) x1 x3 (1 : Int32) M) else (fv_X0_fault_56 (fun a1 a2 a3 M => fv_X0_fault_6 n a1 a2 a3 M) x1 x3 M)) else (fv_X0_fault_56 (fun a1 a2 a3 M => fv_X0_fault_6 n a1 a2 a3 M) x1 x3 M)) else x3)))) := rfl
def ok_X0_fault_6 : Nat → Int32 → Int32 → Int32 → ps_M → Prop
  | 0, _, _, _, _ => False
  | n + 1, x1, x2, x3, M => ((M 194 2) ≤ x3 → True) ∧ (¬ ((M 194 2) ≤ x3) → ((vp_in x3 60) ∧ ((ok_X0_isDigit (M 195 (x3).toNatClampNeg) M) ∧ (((fv_X0_isDigit (M 195 (x3).toNatClampNeg) M) = 0 → (((M 195 (x3).toNatClampNeg) = (44 : Int32) → ((x1 = 0 → True) ∧ (¬ (x1 = 0) → (ok_X0_fault_6 n (0 : Int32) (0 : Int32) (x3 + (1 : Int32)) M)))) ∧ (¬ ((M 195 (x3).toNatClampNeg) = (44 : Int32)) → True))) ∧ (¬ ((fv_X0_isDigit (M 195 (x3).toNatClampNeg) M) = 0) → ((x1 = (3 : Int32) → True) ∧ (¬ (x1 = (3 : Int32)) → ((x2 = 0 → ((x1 = 0 → (((M 195 (x3).toNatClampNeg) = (48 : Int32) → (ok_X0_fault_57 (fun a1 a2 a3 M => fv_X0_fault_6 n a1 a2 a3 M) (fun a1 a2 a3 M => ok_X0_fault_6 n a1 a2 a3 M) x1 x3 (1 : Int32) M)) ∧ (¬ ((M 195 (x3).toNatClampNeg) = (48 : Int32)) → (ok_X0_fault_56 (fun a1 a2 a3 M => fv_X0_fault_6 n a1 a2 a3 M) (fun a1 a2 a3 M => ok_X0_fault_6 n a1 a2 a3 M) x1 x3 M)))) ∧ (¬ (x1 = 0) → (ok_X0_fault_56 (fun a1 a2 a3 M => fv_X0_fault_6 n a1 a2 a3 M) (fun a1 a2 a3 M => ok_X0_fault_6 n a1 a2 a3 M) x1 x3 M)))) ∧ (¬ (x2 = 0) → True)))))))))
theorem ok_X0_fault_6_s (n : Nat) (x1 : Int32) (x2 : Int32) (x3 : Int32) (M : ps_M) : ok_X0_fault_6 (n + 1) x1 x2 x3 M = (((M 194 2) ≤ x3 → True) ∧ (¬ ((M 194 2) ≤ x3) → ((vp_in x3 60) ∧ ((ok_X0_isDigit (M 195 (x3).toNatClampNeg) M) ∧ (((fv_X0_isDigit (M 195 (x3).toNatClampNeg) M) = 0 → (((M 195 (x3).toNatClampNeg) = (44 : Int32) → ((x1 = 0 → True) ∧ (¬ (x1 = 0) → (ok_X0_fault_6 n (0 : Int32) (0 : Int32) (x3 + (1 : Int32)) M)))) ∧ (¬ ((M 195 (x3).toNatClampNeg) = (44 : Int32)) → True))) ∧ (¬ ((fv_X0_isDigit (M 195 (x3).toNatClampNeg) M) = 0) → ((x1 = (3 : Int32) → True) ∧ (¬ (x1 = (3 : Int32)) → ((x2 = 0 → ((x1 = 0 → (((M 195 (x3).toNatClampNeg) = (48 : Int32) → (ok_X0_fault_57 (fun a1 a2 a3 M => fv_X0_fault_6 n a1 a2 a3 M) (fun a1 a2 a3 M => ok_X0_fault_6 n a1 a2 a3 M) x1 x3 (1 : Int32) M)) ∧ (¬ ((M 195 (x3).toNatClampNeg) = (48 : Int32)) → (ok_X0_fault_56 (fun a1 a2 a3 M => fv_X0_fault_6 n a1 a2 a3 M) (fun a1 a2 a3 M => ok_X0_fault_6 n a1 a2 a3 M) x1 x3 M)))) ∧ (¬ (x1 = 0) → (ok_X0_fault_56 (fun a1 a2 a3 M => fv_X0_fault_6 n a1 a2 a3 M) (fun a1 a2 a3 M => ok_X0_fault_6 n a1 a2 a3 M) x1 x3 M)))) ∧ (¬ (x2 = 0) → True)))))))))) := rfl
set_option maxRecDepth 100000 in
set_option maxHeartbeats 4000000 in
theorem bw_X0_fault_6 {E : ps_E} {X : ps_X (Int32 × ps_M)} (C : ps_C (ps_Yc E) X cX0_fault RX0 (some .int) 1 20 5) (RT : ps_RI (ps_Yc E) X cX0_fault .int) (M : ps_M) : ∀ (n : Nat) (x1 : Int32) (x2 : Int32) (x3 : Int32), ok_X0_fault_6 n x1 x2 x3 M → ps_G (ps_Yc E) X (fv_X0_fault_6 n x1 x2 x3 M, M) 6 [(0, .ref (ps_ad E 194)), (1, .int x1), (2, .int x2), (3, .int x3)] [] M := by
  intro n
  induction n with
  | zero => intro x1 x2 x3 h; exact h.elim
  | succ n ih =>
    intro x1 x2 x3 hk
    rw [fv_X0_fault_6_s]
    rw [ok_X0_fault_6_s] at hk
    refine gw_iload_n C 7 dX0_fault_6 3 rfl rfl ?_
    refine gw_aload_n C 8 dX0_fault_7 0 rfl rfl ?_
    refine gf_X0_19 C 11 dX0_fault_8 rfl ?_
    refine gw_ic_geP C 87 14 dX0_fault_11 (by decide) rfl (fun c11 => ?_) (fun c11 => ?_)
    · refine gw_iload_n C 88 dX0_fault_87 1 rfl rfl ?_
      refine gw_if_neP C 98 91 dX0_fault_88 (by decide) rfl (fun c88 => ?_) (fun c88 => ?_)
      · refine gw_aload_n C 92 dX0_fault_91 0 rfl rfl ?_
        refine gf_X0_19 C 95 dX0_fault_92 rfl ?_
        refine gw_goto C 99 dX0_fault_95 (by decide) ?_
        exact RT _ _ _ _ dX0_fault_99 rfl
      · refine gw_iconst C 99 dX0_fault_98 (v := (-1)) (by decide) rfl ?_
        exact RT _ _ _ _ dX0_fault_99 rfl
    · refine gw_aload_n C 15 dX0_fault_14 0 rfl rfl ?_
      refine gf_X0_9 C 18 dX0_fault_15 rfl ?_
      refine gw_iload_n C 19 dX0_fault_18 3 rfl rfl ?_
      refine gw_ld_c60 C 20 dX0_fault_19 rfl kd_195 (hk.2 c11).1 ?_
      refine gw_istore C 22 dX0_fault_20 rfl [(0, .ref (ps_ad E 194)), (1, .int x1), (2, .int x2), (3, .int x3), (4, .int (M 195 (x3).toNatClampNeg))] [1, 2, 3, 4, 0] (by decide) rfl ?_
      refine gw_iload C 24 dX0_fault_22 4 rfl rfl ?_
      refine gw_cSp C 27 dX0_fault_24 rfl yv_X0_isDigit lk_X0_23 [.int (M 195 (x3).toNatClampNeg)] [] rfl (ct_X0_isDigit (E := E) (l := ps_l X) (M 195 (x3).toNatClampNeg) M (hk.2 c11).2.1) rfl (Nat.le_of_ble_eq_true rfl) (Nat.le_of_ble_eq_true rfl) (Nat.le_of_ble_eq_true rfl) ?_
      refine gw_if_eqP C 64 30 dX0_fault_27 (by decide) rfl (fun c27 => ?_) (fun c27 => ?_)
      · refine gw_iload C 66 dX0_fault_64 4 rfl rfl ?_
        refine gw_bipush C 68 dX0_fault_66 (v := 44) (by decide) rfl ?_
        refine gw_ic_neP C 75 71 dX0_fault_68 (by decide) rfl (fun c68 => ?_) (fun c68 => ?_)
        · refine gw_iload_n C 72 dX0_fault_71 1 rfl rfl ?_
          refine gw_if_neP C 77 75 dX0_fault_72 (by decide) rfl (fun c72 => ?_) (fun c72 => ?_)
          · refine gw_iload_n C 76 dX0_fault_75 3 rfl rfl ?_
            exact RT _ _ _ _ dX0_fault_76 rfl
          · refine gw_iconst C 78 dX0_fault_77 (v := 0) (by decide) rfl ?_
            refine gw_istore_n C 79 dX0_fault_78 rfl [(0, .ref (ps_ad E 194)), (1, .int (0 : Int32)), (2, .int x2), (3, .int x3), (4, .int (M 195 (x3).toNatClampNeg))] [1, 0, 2, 3, 4] (by decide) rfl ?_
            refine gw_iconst C 80 dX0_fault_79 (v := 0) (by decide) rfl ?_
            refine gw_istore_n C 81 dX0_fault_80 rfl [(0, .ref (ps_ad E 194)), (1, .int (0 : Int32)), (2, .int (0 : Int32)), (3, .int x3), (4, .int (M 195 (x3).toNatClampNeg))] [1, 2, 0, 3, 4] (by decide) rfl ?_
            refine gw_iinc C 84 dX0_fault_81 rfl (y := 1) (by decide) rfl 3 rfl [(0, .ref (ps_ad E 194)), (1, .int (0 : Int32)), (2, .int (0 : Int32)), (3, .int (x3 + (1 : Int32))), (4, .int (M 195 (x3).toNatClampNeg))] [1, 2, 3, 0, 4] (by decide) rfl ?_
            refine gw_goto C 6 dX0_fault_84 (by decide) ?_
            refine gw_sub C [(0, .ref (ps_ad E 194)), (1, .int (0 : Int32)), (2, .int (0 : Int32)), (3, .int (x3 + (1 : Int32)))] [0, 1, 2, 3] rfl ?_
            exact ih (0 : Int32) (0 : Int32) (x3 + (1 : Int32)) ((((hk.2 c11).2.2.1 c27).1 c68).2 c72)
        · refine gw_iload_n C 76 dX0_fault_75 3 rfl rfl ?_
          exact RT _ _ _ _ dX0_fault_76 rfl
      · refine gw_iload_n C 31 dX0_fault_30 1 rfl rfl ?_
        refine gw_iconst C 32 dX0_fault_31 (v := 3) (by decide) rfl ?_
        refine gw_ic_eqP C 39 35 dX0_fault_32 (by decide) rfl (fun c32 => ?_) (fun c32 => ?_)
        · refine gw_iload_n C 40 dX0_fault_39 3 rfl rfl ?_
          exact RT _ _ _ _ dX0_fault_40 rfl
        · refine gw_iload_n C 36 dX0_fault_35 2 rfl rfl ?_
          refine gw_if_eqP C 41 39 dX0_fault_36 (by decide) rfl (fun c36 => ?_) (fun c36 => ?_)
          · refine gw_iload_n C 42 dX0_fault_41 1 rfl rfl ?_
            refine gw_if_neP C 56 45 dX0_fault_42 (by decide) rfl (fun c42 => ?_) (fun c42 => ?_)
            · refine gw_iload C 47 dX0_fault_45 4 rfl rfl ?_
              refine gw_bipush C 49 dX0_fault_47 (v := 48) (by decide) rfl ?_
              refine gw_ic_neP C 56 52 dX0_fault_49 (by decide) rfl (fun c49 => ?_) (fun c49 => ?_)
              · refine gw_iconst C 53 dX0_fault_52 (v := 1) (by decide) rfl ?_
                refine gw_goto C 57 dX0_fault_53 (by decide) ?_
                refine gw_sub C [(0, .ref (ps_ad E 194)), (1, .int x1), (3, .int x3)] [0, 1, 3] rfl ?_
                exact bw_X0_fault_57 C RT M _ _ (fun a1 a2 a3  h => ih a1 a2 a3  h) x1 x3 (1 : Int32) ((((((hk.2 c11).2.2.2 c27).2 c32).1 c36).1 c42).1 c49)
              · refine gw_sub C [(0, .ref (ps_ad E 194)), (1, .int x1), (3, .int x3)] [0, 1, 3] rfl ?_
                exact bw_X0_fault_56 C RT M _ _ (fun a1 a2 a3  h => ih a1 a2 a3  h) x1 x3 ((((((hk.2 c11).2.2.2 c27).2 c32).1 c36).1 c42).2 c49)
            · refine gw_sub C [(0, .ref (ps_ad E 194)), (1, .int x1), (3, .int x3)] [0, 1, 3] rfl ?_
              exact bw_X0_fault_56 C RT M _ _ (fun a1 a2 a3  h => ih a1 a2 a3  h) x1 x3 (((((hk.2 c11).2.2.2 c27).2 c32).1 c36).2 c42)
          · refine gw_iload_n C 40 dX0_fault_39 3 rfl rfl ?_
            exact RT _ _ _ _ dX0_fault_40 rfl
def fv_X0_fault  (M : ps_M) : Int32 := fv_X0_fault_6 ps_FU (0 : Int32) (0 : Int32) (0 : Int32) M
def ok_X0_fault  (M : ps_M) : Prop := ok_X0_fault_6 ps_FU (0 : Int32) (0 : Int32) (0 : Int32) M
set_option maxRecDepth 100000 in
set_option maxHeartbeats 4000000 in
theorem bw_X0_fault {E : ps_E} {X : ps_X (Int32 × ps_M)} (C : ps_C (ps_Yc E) X cX0_fault RX0 (some .int) 1 20 5) (RT : ps_RI (ps_Yc E) X cX0_fault .int) (M : ps_M)  (hk : ok_X0_fault  M) : ps_G (ps_Yc E) X (fv_X0_fault  M, M) 0 [(0, .ref (ps_ad E 194))] [] M := by
  unfold fv_X0_fault
  unfold ok_X0_fault at hk
  refine gw_iconst C 1 dX0_fault_0 (v := 0) (by decide) rfl ?_
  refine gw_istore_n C 2 dX0_fault_1 rfl [(0, .ref (ps_ad E 194)), (1, .int (0 : Int32))] [1, 0] (by decide) rfl ?_
  refine gw_iconst C 3 dX0_fault_2 (v := 0) (by decide) rfl ?_
  refine gw_istore_n C 4 dX0_fault_3 rfl [(0, .ref (ps_ad E 194)), (1, .int (0 : Int32)), (2, .int (0 : Int32))] [1, 2, 0] (by decide) rfl ?_
  refine gw_iconst C 5 dX0_fault_4 (v := 0) (by decide) rfl ?_
  refine gw_istore_n C 6 dX0_fault_5 rfl [(0, .ref (ps_ad E 194)), (1, .int (0 : Int32)), (2, .int (0 : Int32)), (3, .int (0 : Int32))] [1, 2, 3, 0] (by decide) rfl ?_
  exact bw_X0_fault_6 C RT M  ps_FU (0 : Int32) (0 : Int32) (0 : Int32) hk
theorem ct_X0_fault {E : ps_E} {l : Launch}   (M : ps_M) (hk : ok_X0_fault  M) : ps_CI (ps_Yc E) l yX0_fault cX0_fault 5 (some .int) 1 20 [.ref (ps_ad E 194)] M (fv_X0_fault  M, M) := ps_metI RX0 (by decide) rfl (Nat.le_of_ble_eq_true rfl) rfl (fun X _ C RT => bw_X0_fault C RT M hk)
def fv_X0_readNumbers_11 : Nat → Int32 → Int32 → ps_M → Int32 × ps_M
  | 0, _, _, M => (0, M)
  | n + 1, x1, x2, M => if (M 194 2) ≤ x2 then (((x1 + (1 : Int32)), M)) else (if (M 195 (x2).toNatClampNeg) = (44 : Int32) then (if (30 : Int32) ≤ (x1 + (1 : Int32)) then (fv_X0_readNumbers_11 n x1 (x2 + (1 : Int32)) M) else (fv_X0_readNumbers_11 n (x1 + (1 : Int32)) (x2 + (1 : Int32)) (ps_st M 196 ((x1 + (1 : Int32))).toNatClampNeg (0 : Int32)))) else (fv_X0_readNumbers_11 n x1 (x2 + (1 : Int32)) (ps_st M 196 (x1).toNatClampNeg (((M 196 (x1).toNatClampNeg) * (10 : Int32)) + ((M 195 (x2).toNatClampNeg) - (48 : Int32))))))
theorem fv_X0_readNumbers_11_s (n : Nat) (x1 : Int32) (x2 : Int32) (M : ps_M) : fv_X0_readNumbers_11 (n + 1) x1 x2 M = (if (M 194 2) ≤ x2 then (((x1 + (1 : Int32)), M)) else (if (M 195 (x2).toNatClampNeg) = (44 : Int32) then (if (30 : Int32) ≤ (x1 + (1 : Int32)) then (fv_X0_readNumbers_11 n x1 (x2 + (1 : Int32)) M) else (fv_X0_readNumbers_11 n (x1 + (1 : Int32)) (x2 + (1 : Int32)) (ps_st M 196 ((x1 + (1 : Int32))).toNatClampNeg (0 : Int32)))) else (fv_X0_readNumbers_11 n x1 (x2 + (1 : Int32)) (ps_st M 196 (x1).toNatClampNeg (((M 196 (x1).toNatClampNeg) * (10 : Int32)) + ((M 195 (x2).toNatClampNeg) - (48 : Int32))))))) := rfl
def ok_X0_readNumbers_11 : Nat → Int32 → Int32 → ps_M → Prop
  | 0, _, _, _ => False
  | n + 1, x1, x2, M => ((M 194 2) ≤ x2 → True) ∧ (¬ ((M 194 2) ≤ x2) → ((vp_in x2 60) ∧ (((M 195 (x2).toNatClampNeg) = (44 : Int32) → (((30 : Int32) ≤ (x1 + (1 : Int32)) → (ok_X0_readNumbers_11 n x1 (x2 + (1 : Int32)) M)) ∧ (¬ ((30 : Int32) ≤ (x1 + (1 : Int32))) → ((vp_in (x1 + (1 : Int32)) 30) ∧ (ok_X0_readNumbers_11 n (x1 + (1 : Int32)) (x2 + (1 : Int32)) (ps_st M 196 ((x1 + (1 : Int32))).toNatClampNeg (0 : Int32))))))) ∧ (¬ ((M 195 (x2).toNatClampNeg) = (44 : Int32)) → ((vp_in x1 30) ∧ ((vp_in x2 60) ∧ ((vp_in x1 30) ∧ (ok_X0_readNumbers_11 n x1 (x2 + (1 : Int32)) (ps_st M 196 (x1).toNatClampNeg (((M 196 (x1).toNatClampNeg) * (10 : Int32)) + ((M 195 (x2).toNatClampNeg) - (48 : Int32))))))))))))
theorem ok_X0_readNumbers_11_s (n : Nat) (x1 : Int32) (x2 : Int32) (M : ps_M) : ok_X0_readNumbers_11 (n + 1) x1 x2 M = (((M 194 2) ≤ x2 → True) ∧ (¬ ((M 194 2) ≤ x2) → ((vp_in x2 60) ∧ (((M 195 (x2).toNatClampNeg) = (44 : Int32) → (((30 : Int32) ≤ (x1 + (1 : Int32)) → (ok_X0_readNumbers_11 n x1 (x2 + (1 : Int32)) M)) ∧ (¬ ((30 : Int32) ≤ (x1 + (1 : Int32))) → ((vp_in (x1 + (1 : Int32)) 30) ∧ (ok_X0_readNumbers_11 n (x1 + (1 : Int32)) (x2 + (1 : Int32)) (ps_st M 196 ((x1 + (1 : Int32))).toNatClampNeg (0 : Int32))))))) ∧ (¬ ((M 195 (x2).toNatClampNeg) = (44 : Int32)) → ((vp_in x1 30) ∧ ((vp_in x2 60) ∧ ((vp_in x1 30) ∧ (ok_X0_readNumbers_11 n x1 (x2 + (1 : Int32)) (ps_st M 196 (x1).toNatClampNeg (((M 196 (x1).toNatClampNeg) * (10 : Int32)) + ((M 195 (x2).toNatClampNeg) - (48 : Int32))))))))))))) := rfl
set_option maxRecDepth 100000 in
set_option maxHeartbeats 4000000 in
theorem bw_X0_readNumbers_11 {E : ps_E} {X : ps_X (Int32 × ps_M)} (C : ps_C (ps_Yc E) X cX0_readNumbers RX0 (some .int) 0 0 3) (RT : ps_RI (ps_Yc E) X cX0_readNumbers .int) : ∀ (n : Nat) (x1 : Int32) (x2 : Int32) (M : ps_M), ok_X0_readNumbers_11 n x1 x2 M → ps_G (ps_Yc E) X (fv_X0_readNumbers_11 n x1 x2 M) 11 [(0, .ref (ps_ad E 194)), (1, .int x1), (2, .int x2)] [] M := by
  intro n
  induction n with
  | zero => intro x1 x2 M h; exact h.elim
  | succ n ih =>
    intro x1 x2 M hk
    rw [fv_X0_readNumbers_11_s]
    rw [ok_X0_readNumbers_11_s] at hk
    refine gw_iload_n C 12 dX0_readNumbers_11 2 rfl rfl ?_
    refine gw_aload_n C 13 dX0_readNumbers_12 0 rfl rfl ?_
    refine gf_X0_19 C 16 dX0_readNumbers_13 rfl ?_
    refine gw_ic_ge C 82 19 dX0_readNumbers_16 (by decide) rfl (fun c16 => ?_) (fun c16 => ?_)
    · refine gw_iload_n C 83 dX0_readNumbers_82 1 rfl rfl ?_
      refine gw_iconst C 84 dX0_readNumbers_83 (v := 1) (by decide) rfl ?_
      refine gw_iadd C 85 dX0_readNumbers_84 rfl ?_
      exact RT _ _ _ _ dX0_readNumbers_85 rfl
    · refine gw_aload_n C 20 dX0_readNumbers_19 0 rfl rfl ?_
      refine gf_X0_9 C 23 dX0_readNumbers_20 rfl ?_
      refine gw_iload_n C 24 dX0_readNumbers_23 2 rfl rfl ?_
      refine gw_ld_c60 C 25 dX0_readNumbers_24 rfl kd_195 (hk.2 c16).1 ?_
      refine gw_bipush C 27 dX0_readNumbers_25 (v := 44) (by decide) rfl ?_
      refine gw_ic_eq C 58 30 dX0_readNumbers_27 (by decide) rfl (fun c27 => ?_) (fun c27 => ?_)
      · refine gw_iload_n C 59 dX0_readNumbers_58 1 rfl rfl ?_
        refine gw_iconst C 60 dX0_readNumbers_59 (v := 1) (by decide) rfl ?_
        refine gw_iadd C 61 dX0_readNumbers_60 rfl ?_
        refine gw_bipush C 63 dX0_readNumbers_61 (v := 30) (by decide) rfl ?_
        refine gw_ic_ge C 76 66 dX0_readNumbers_63 (by decide) rfl (fun c63 => ?_) (fun c63 => ?_)
        · refine gw_iinc C 79 dX0_readNumbers_76 rfl (y := 1) (by decide) rfl 2 rfl [(0, .ref (ps_ad E 194)), (1, .int x1), (2, .int (x2 + (1 : Int32)))] [1, 2, 0] (by decide) rfl ?_
          refine gw_goto C 11 dX0_readNumbers_79 (by decide) ?_
          exact ih x1 (x2 + (1 : Int32)) M (((hk.2 c16).2.1 c27).1 c63)
        · refine gw_iinc C 69 dX0_readNumbers_66 rfl (y := 1) (by decide) rfl 1 rfl [(0, .ref (ps_ad E 194)), (1, .int (x1 + (1 : Int32))), (2, .int x2)] [1, 0, 2] (by decide) rfl ?_
          refine gw_aload_n C 70 dX0_readNumbers_69 0 rfl rfl ?_
          refine gf_X0_15 C 73 dX0_readNumbers_70 rfl ?_
          refine gw_iload_n C 74 dX0_readNumbers_73 1 rfl rfl ?_
          refine gw_iconst C 75 dX0_readNumbers_74 (v := 0) (by decide) rfl ?_
          refine gw_sv_i30 C 76 dX0_readNumbers_75 rfl kd_196 (((hk.2 c16).2.1 c27).2 c63).1 ?_
          refine gw_iinc C 79 dX0_readNumbers_76 rfl (y := 1) (by decide) rfl 2 rfl [(0, .ref (ps_ad E 194)), (1, .int (x1 + (1 : Int32))), (2, .int (x2 + (1 : Int32)))] [1, 2, 0] (by decide) rfl ?_
          refine gw_goto C 11 dX0_readNumbers_79 (by decide) ?_
          exact ih (x1 + (1 : Int32)) (x2 + (1 : Int32)) (ps_st M 196 ((x1 + (1 : Int32))).toNatClampNeg (0 : Int32)) (((hk.2 c16).2.1 c27).2 c63).2
      · refine gw_aload_n C 31 dX0_readNumbers_30 0 rfl rfl ?_
        refine gf_X0_15 C 34 dX0_readNumbers_31 rfl ?_
        refine gw_iload_n C 35 dX0_readNumbers_34 1 rfl rfl ?_
        refine gw_aload_n C 36 dX0_readNumbers_35 0 rfl rfl ?_
        refine gf_X0_15 C 39 dX0_readNumbers_36 rfl ?_
        refine gw_iload_n C 40 dX0_readNumbers_39 1 rfl rfl ?_
        refine gw_ld_i30 C 41 dX0_readNumbers_40 rfl kd_196 ((hk.2 c16).2.2 c27).1 ?_
        refine gw_bipush C 43 dX0_readNumbers_41 (v := 10) (by decide) rfl ?_
        refine gw_imul C 44 dX0_readNumbers_43 rfl ?_
        refine gw_aload_n C 45 dX0_readNumbers_44 0 rfl rfl ?_
        refine gf_X0_9 C 48 dX0_readNumbers_45 rfl ?_
        refine gw_iload_n C 49 dX0_readNumbers_48 2 rfl rfl ?_
        refine gw_ld_c60 C 50 dX0_readNumbers_49 rfl kd_195 ((hk.2 c16).2.2 c27).2.1 ?_
        refine gw_bipush C 52 dX0_readNumbers_50 (v := 48) (by decide) rfl ?_
        refine gw_isub C 53 dX0_readNumbers_52 rfl ?_
        refine gw_iadd C 54 dX0_readNumbers_53 rfl ?_
        refine gw_sv_i30 C 55 dX0_readNumbers_54 rfl kd_196 ((hk.2 c16).2.2 c27).2.2.1 ?_
        refine gw_goto C 76 dX0_readNumbers_55 (by decide) ?_
        refine gw_iinc C 79 dX0_readNumbers_76 rfl (y := 1) (by decide) rfl 2 rfl [(0, .ref (ps_ad E 194)), (1, .int x1), (2, .int (x2 + (1 : Int32)))] [1, 2, 0] (by decide) rfl ?_
        refine gw_goto C 11 dX0_readNumbers_79 (by decide) ?_
        exact ih x1 (x2 + (1 : Int32)) (ps_st M 196 (x1).toNatClampNeg (((M 196 (x1).toNatClampNeg) * (10 : Int32)) + ((M 195 (x2).toNatClampNeg) - (48 : Int32)))) ((hk.2 c16).2.2 c27).2.2.2
def fv_X0_readNumbers  (M : ps_M) : Int32 × ps_M := fv_X0_readNumbers_11 ps_FU (0 : Int32) (0 : Int32) (ps_st M 196 ((0 : Int32)).toNatClampNeg (0 : Int32))
def ok_X0_readNumbers  (M : ps_M) : Prop := (vp_in (0 : Int32) 30) ∧ (ok_X0_readNumbers_11 ps_FU (0 : Int32) (0 : Int32) (ps_st M 196 ((0 : Int32)).toNatClampNeg (0 : Int32)))
set_option maxRecDepth 100000 in
set_option maxHeartbeats 4000000 in
theorem bw_X0_readNumbers {E : ps_E} {X : ps_X (Int32 × ps_M)} (C : ps_C (ps_Yc E) X cX0_readNumbers RX0 (some .int) 0 0 3) (RT : ps_RI (ps_Yc E) X cX0_readNumbers .int)  (M : ps_M) (hk : ok_X0_readNumbers  M) : ps_G (ps_Yc E) X (fv_X0_readNumbers  M) 0 [(0, .ref (ps_ad E 194))] [] M := by
  unfold fv_X0_readNumbers
  unfold ok_X0_readNumbers at hk
  refine gw_iconst C 1 dX0_readNumbers_0 (v := 0) (by decide) rfl ?_
  refine gw_istore_n C 2 dX0_readNumbers_1 rfl [(0, .ref (ps_ad E 194)), (1, .int (0 : Int32))] [1, 0] (by decide) rfl ?_
  refine gw_aload_n C 3 dX0_readNumbers_2 0 rfl rfl ?_
  refine gf_X0_15 C 6 dX0_readNumbers_3 rfl ?_
  refine gw_iconst C 7 dX0_readNumbers_6 (v := 0) (by decide) rfl ?_
  refine gw_iconst C 8 dX0_readNumbers_7 (v := 0) (by decide) rfl ?_
  refine gw_sv_i30 C 9 dX0_readNumbers_8 rfl kd_196 hk.1 ?_
  refine gw_iconst C 10 dX0_readNumbers_9 (v := 0) (by decide) rfl ?_
  refine gw_istore_n C 11 dX0_readNumbers_10 rfl [(0, .ref (ps_ad E 194)), (1, .int (0 : Int32)), (2, .int (0 : Int32))] [1, 2, 0] (by decide) rfl ?_
  exact bw_X0_readNumbers_11 C RT  ps_FU (0 : Int32) (0 : Int32) (ps_st M 196 ((0 : Int32)).toNatClampNeg (0 : Int32)) hk.2
theorem ct_X0_readNumbers {E : ps_E} {l : Launch}   (M : ps_M) (hk : ok_X0_readNumbers  M) : ps_CI (ps_Yc E) l yX0_readNumbers cX0_readNumbers 3 (some .int) 0 0 [.ref (ps_ad E 194)] M (fv_X0_readNumbers  M) := ps_metI RX0 (by decide) rfl (Nat.le_of_ble_eq_true rfl) rfl (fun X _ C RT => bw_X0_readNumbers C RT M hk)
def fv_X0_greatestNumber_4 : Nat → Int32 → Int32 → Int32 → ps_M → Int32
  | 0, _, _, _, M => 0
  | n + 1, x1, x2, x3, M => if x1 ≤ x3 then x2 else (fv_X0_greatestNumber_4 n x1 (if x2 < (M 196 (x3).toNatClampNeg) then (M 196 (x3).toNatClampNeg) else x2) (x3 + (1 : Int32)) M)
theorem fv_X0_greatestNumber_4_s (n : Nat) (x1 : Int32) (x2 : Int32) (x3 : Int32) (M : ps_M) : fv_X0_greatestNumber_4 (n + 1) x1 x2 x3 M = (if x1 ≤ x3 then x2 else (fv_X0_greatestNumber_4 n x1 (if x2 < (M 196 (x3).toNatClampNeg) then (M 196 (x3).toNatClampNeg) else x2) (x3 + (1 : Int32)) M)) := rfl
def ok_X0_greatestNumber_4 : Nat → Int32 → Int32 → Int32 → ps_M → Prop
  | 0, _, _, _, _ => False
  | n + 1, x1, x2, x3, M => (x1 ≤ x3 → True) ∧ (¬ (x1 ≤ x3) → ((vp_in x3 30) ∧ (ok_X0_greatestNumber_4 n x1 (if x2 < (M 196 (x3).toNatClampNeg) then (M 196 (x3).toNatClampNeg) else x2) (x3 + (1 : Int32)) M)))
theorem ok_X0_greatestNumber_4_s (n : Nat) (x1 : Int32) (x2 : Int32) (x3 : Int32) (M : ps_M) : ok_X0_greatestNumber_4 (n + 1) x1 x2 x3 M = ((x1 ≤ x3 → True) ∧ (¬ (x1 ≤ x3) → ((vp_in x3 30) ∧ (ok_X0_greatestNumber_4 n x1 (if x2 < (M 196 (x3).toNatClampNeg) then (M 196 (x3).toNatClampNeg) else x2) (x3 + (1 : Int32)) M)))) := rfl
set_option maxRecDepth 100000 in
set_option maxHeartbeats 4000000 in
theorem bw_X0_greatestNumber_4 {E : ps_E} {X : ps_X (Int32 × ps_M)} (C : ps_C (ps_Yc E) X cX0_greatestNumber RX0 (some .int) 1 13 4) (RT : ps_RI (ps_Yc E) X cX0_greatestNumber .int) (M : ps_M) : ∀ (n : Nat) (x1 : Int32) (x2 : Int32) (x3 : Int32), ok_X0_greatestNumber_4 n x1 x2 x3 M → ps_G (ps_Yc E) X (fv_X0_greatestNumber_4 n x1 x2 x3 M, M) 4 [(0, .ref (ps_ad E 194)), (1, .int x1), (2, .int x2), (3, .int x3)] [] M := by
  intro n
  induction n with
  | zero => intro x1 x2 x3 h; exact h.elim
  | succ n ih =>
    intro x1 x2 x3 hk
    rw [fv_X0_greatestNumber_4_s]
    rw [ok_X0_greatestNumber_4_s] at hk
    refine gw_iload_n C 5 dX0_greatestNumber_4 3 rfl rfl ?_
    refine gw_iload_n C 6 dX0_greatestNumber_5 1 rfl rfl ?_
    refine gw_ic_geP C 26 9 dX0_greatestNumber_6 (by decide) rfl (fun c6 => ?_) (fun c6 => ?_)
    · refine gw_iload_n C 27 dX0_greatestNumber_26 2 rfl rfl ?_
      exact RT _ _ _ _ dX0_greatestNumber_27 rfl
    · refine gw_iload_n C 10 dX0_greatestNumber_9 2 rfl rfl ?_
      refine gw_aload_n C 11 dX0_greatestNumber_10 0 rfl rfl ?_
      refine gf_X0_15 C 14 dX0_greatestNumber_11 rfl ?_
      refine gw_iload_n C 15 dX0_greatestNumber_14 3 rfl rfl ?_
      refine gw_ld_i30 C 16 dX0_greatestNumber_15 rfl kd_196 (hk.2 c6).1 ?_
      refine gw_mmax C 19 dX0_greatestNumber_16 rfl lk_X0_27 (Nat.le_of_ble_eq_true rfl) (Nat.le_of_ble_eq_true rfl) ?_
      refine gw_istore_n C 20 dX0_greatestNumber_19 rfl [(0, .ref (ps_ad E 194)), (1, .int x1), (2, .int (if x2 < (M 196 (x3).toNatClampNeg) then (M 196 (x3).toNatClampNeg) else x2)), (3, .int x3)] [1, 2, 0, 3] (by decide) rfl ?_
      refine gw_iinc C 23 dX0_greatestNumber_20 rfl (y := 1) (by decide) rfl 3 rfl [(0, .ref (ps_ad E 194)), (1, .int x1), (2, .int (if x2 < (M 196 (x3).toNatClampNeg) then (M 196 (x3).toNatClampNeg) else x2)), (3, .int (x3 + (1 : Int32)))] [1, 2, 3, 0] (by decide) rfl ?_
      refine gw_goto C 4 dX0_greatestNumber_23 (by decide) ?_
      exact ih x1 (if x2 < (M 196 (x3).toNatClampNeg) then (M 196 (x3).toNatClampNeg) else x2) (x3 + (1 : Int32)) (hk.2 c6).2
def fv_X0_greatestNumber (x1 : Int32) (M : ps_M) : Int32 := fv_X0_greatestNumber_4 ps_FU x1 (0 : Int32) (0 : Int32) M
def ok_X0_greatestNumber (x1 : Int32) (M : ps_M) : Prop := ok_X0_greatestNumber_4 ps_FU x1 (0 : Int32) (0 : Int32) M
set_option maxRecDepth 100000 in
set_option maxHeartbeats 4000000 in
theorem bw_X0_greatestNumber {E : ps_E} {X : ps_X (Int32 × ps_M)} (C : ps_C (ps_Yc E) X cX0_greatestNumber RX0 (some .int) 1 13 4) (RT : ps_RI (ps_Yc E) X cX0_greatestNumber .int) (M : ps_M) (x1 : Int32) (hk : ok_X0_greatestNumber x1 M) : ps_G (ps_Yc E) X (fv_X0_greatestNumber x1 M, M) 0 [(0, .ref (ps_ad E 194)), (1, .int x1)] [] M := by
  unfold fv_X0_greatestNumber
  unfold ok_X0_greatestNumber at hk
  refine gw_iconst C 1 dX0_greatestNumber_0 (v := 0) (by decide) rfl ?_
  refine gw_istore_n C 2 dX0_greatestNumber_1 rfl [(0, .ref (ps_ad E 194)), (1, .int x1), (2, .int (0 : Int32))] [1, 2, 0] (by decide) rfl ?_
  refine gw_iconst C 3 dX0_greatestNumber_2 (v := 0) (by decide) rfl ?_
  refine gw_istore_n C 4 dX0_greatestNumber_3 rfl [(0, .ref (ps_ad E 194)), (1, .int x1), (2, .int (0 : Int32)), (3, .int (0 : Int32))] [1, 2, 3, 0] (by decide) rfl ?_
  exact bw_X0_greatestNumber_4 C RT M  ps_FU x1 (0 : Int32) (0 : Int32) hk
theorem ct_X0_greatestNumber {E : ps_E} {l : Launch} (x1 : Int32)  (M : ps_M) (hk : ok_X0_greatestNumber x1 M) : ps_CI (ps_Yc E) l yX0_greatestNumber cX0_greatestNumber 4 (some .int) 1 13 [.ref (ps_ad E 194), .int x1] M (fv_X0_greatestNumber x1 M, M) := ps_metI RX0 (by decide) rfl (Nat.le_of_ble_eq_true rfl) rfl (fun X _ C RT => bw_X0_greatestNumber C RT M x1 hk)
