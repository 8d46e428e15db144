def fv_L_fails_657 (x1 : Int64) (x3 : Int32) (s0 : Int32) (M : ps_M) : Int32 × ps_M := if s0 = 0 then (((0 : Int32), M)) else (if (lg_cmp ((fv_L_mark M).1) x1) = 0 then (if (fv_X5_count (14 : Int32) ((fv_L_mark M).2)).1 = x3 then (((1 : Int32), (fv_X5_count (14 : Int32) ((fv_L_mark M).2)).2)) else (((0 : Int32), (fv_X5_count (14 : Int32) ((fv_L_mark M).2)).2))) else (((0 : Int32), (fv_L_mark M).2)))
def ok_L_fails_657 (x1 : Int64) (x3 : Int32) (s0 : Int32) (M : ps_M) : Prop := (s0 = 0 → True) ∧ (¬ (s0 = 0) → ((ok_L_mark M) ∧ (((lg_cmp ((fv_L_mark M).1) x1) = 0 → ((ok_X5_count (14 : Int32) ((fv_L_mark M).2)) ∧ True)) ∧ (¬ ((lg_cmp ((fv_L_mark M).1) x1) = 0) → True))))
set_option maxRecDepth 100000 in
set_option maxHeartbeats 4000000 in
theorem bw_L_fails_657 {E : ps_E} {X : ps_X (Int32 × ps_M)} (C : ps_C (ps_Yc E) X cL_fails RL (some .boolean) 6 131 8) (RT : ps_RI (ps_Yc E) X cL_fails .boolean) (x1 : Int64) (x3 : Int32) (s0 : Int32) (M : ps_M) (hk : ok_L_fails_657 x1 x3 s0 M) : ps_G (ps_Yc E) X (fv_L_fails_657 x1 x3 s0 M) 657 [(0, .ref (ps_ad E 0)), (1, .long x1), (3, .int x3)] [.int s0] M := by
  unfold fv_L_fails_657
  unfold ok_L_fails_657 at hk
  refine gw_istore C 659 dL_fails_657 rfl [(0, .ref (ps_ad E 0)), (1, .long x1), (3, .int x3), (7, .int s0)] [1, 2, 3, 0] (by decide) rfl ?_
  refine gw_iload C 661 dL_fails_659 3 rfl rfl ?_
  refine gw_if_eq C 687 664 dL_fails_661 (by decide) rfl (fun c661 => ?_) (fun c661 => ?_)
  · refine gw_iconst C 688 dL_fails_687 (v := 0) (by decide) rfl ?_
    exact RT _ _ _ _ dL_fails_688 ps_nb0
  · refine gw_aload_n C 665 dL_fails_664 0 rfl rfl ?_
    refine gw_cSl C 668 dL_fails_665 rfl yv_L_mark lk_L_32 [.ref (ps_ad E 0)] [] rfl (ct_L_mark (E := E) (l := ps_l X) M (hk.2 c661).1) rfl (Nat.le_of_ble_eq_true rfl) (Nat.le_of_ble_eq_true rfl) (Nat.le_of_ble_eq_true rfl) ?_
    refine gw_lload_n C 669 dL_fails_668 1 rfl rfl ?_
    refine gw_lcmp C 670 dL_fails_669 rfl ?_
    refine gw_if_ne C 687 673 dL_fails_670 (by decide) rfl (fun c670 => ?_) (fun c670 => ?_)
    · refine gw_aload_n C 674 dL_fails_673 0 rfl rfl ?_
      refine gw_bipush C 676 dL_fails_674 (v := 14) (by decide) rfl ?_
      refine gw_cVi C 679 dL_fails_676 rfl yv_X5_count lk_L_13 [.int (14 : Int32)] [] rfl (ct_X5_count (E := E) (l := ps_l X) (14 : Int32) ((fv_L_mark M).2) ((hk.2 c661).2.1 c670).1) rc_P rfl (Nat.le_of_ble_eq_true rfl) (Nat.le_of_ble_eq_true rfl) (Nat.le_of_ble_eq_true rfl) ?_
      refine gw_iload_n C 680 dL_fails_679 2 rfl rfl ?_
      refine gw_ic_ne C 687 683 dL_fails_680 (by decide) rfl (fun c680 => ?_) (fun c680 => ?_)
      · refine gw_iconst C 684 dL_fails_683 (v := 1) (by decide) rfl ?_
        refine gw_goto C 688 dL_fails_684 (by decide) ?_
        exact RT _ _ _ _ dL_fails_688 ps_nb1
      · refine gw_iconst C 688 dL_fails_687 (v := 0) (by decide) rfl ?_
        exact RT _ _ _ _ dL_fails_688 ps_nb0
    · refine gw_iconst C 688 dL_fails_687 (v := 0) (by decide) rfl ?_
      exact RT _ _ _ _ dL_fails_688 ps_nb0
def fv_L_fails_656 (x1 : Int64) (x3 : Int32) (M : ps_M) : Int32 × ps_M := fv_L_fails_657 x1 x3 (0 : Int32) M
def ok_L_fails_656 (x1 : Int64) (x3 : Int32) (M : ps_M) : Prop := ok_L_fails_657 x1 x3 (0 : Int32) M
set_option maxRecDepth 100000 in
set_option maxHeartbeats 4000000 in
theorem bw_L_fails_656 {E : ps_E} {X : ps_X (Int32 × ps_M)} (C : ps_C (ps_Yc E) X cL_fails RL (some .boolean) 6 131 8) (RT : ps_RI (ps_Yc E) X cL_fails .boolean) (x1 : Int64) (x3 : Int32) (M : ps_M) (hk : ok_L_fails_656 x1 x3 M) : ps_G (ps_Yc E) X (fv_L_fails_656 x1 x3 M) 656 [(0, .ref (ps_ad E 0)), (1, .long x1), (3, .int x3)] [] M := by
  unfold fv_L_fails_656
  unfold ok_L_fails_656 at hk
  refine gw_iconst C 657 dL_fails_656 (v := 0) (by decide) rfl ?_
  exact bw_L_fails_657 C RT  x1 x3 (0 : Int32) M hk
def fv_L_fails_652 (x1 : Int64) (x3 : Int32) (M : ps_M) : Int32 × ps_M := fv_L_fails_657 x1 x3 (1 : Int32) M
def ok_L_fails_652 (x1 : Int64) (x3 : Int32) (M : ps_M) : Prop := ok_L_fails_657 x1 x3 (1 : Int32) M
set_option maxRecDepth 100000 in
set_option maxHeartbeats 4000000 in
theorem bw_L_fails_652 {E : ps_E} {X : ps_X (Int32 × ps_M)} (C : ps_C (ps_Yc E) X cL_fails RL (some .boolean) 6 131 8) (RT : ps_RI (ps_Yc E) X cL_fails .boolean) (x1 : Int64) (x3 : Int32) (M : ps_M) (hk : ok_L_fails_652 x1 x3 M) : ps_G (ps_Yc E) X (fv_L_fails_652 x1 x3 M) 652 [(0, .ref (ps_ad E 0)), (1, .long x1), (3, .int x3)] [] M := by
  unfold fv_L_fails_652
  unfold ok_L_fails_652 at hk
  refine gw_iconst C 653 dL_fails_652 (v := 1) (by decide) rfl ?_
  refine gw_goto C 657 dL_fails_653 (by decide) ?_
  exact bw_L_fails_657 C RT  x1 x3 (1 : Int32) M hk
def fv_L_fails_635 (x1 : Int64) (x3 : Int32) (x5 : Int32) (M : ps_M) : Int32 × ps_M := if x5 = 0 then (fv_L_fails_652 x1 x3 M) else (if (fv_X5_clerk (0 : Int32) (7 : Int32) M) = (-2 : Int32) then (fv_L_fails_652 x1 x3 M) else (fv_L_fails_656 x1 x3 M))
def ok_L_fails_635 (x1 : Int64) (x3 : Int32) (x5 : Int32) (M : ps_M) : Prop := (x5 = 0 → (ok_L_fails_652 x1 x3 M)) ∧ (¬ (x5 = 0) → ((ok_X5_clerk (0 : Int32) (7 : Int32) M) ∧ (((fv_X5_clerk (0 : Int32) (7 : Int32) M) = (-2 : Int32) → (ok_L_fails_652 x1 x3 M)) ∧ (¬ ((fv_X5_clerk (0 : Int32) (7 : Int32) M) = (-2 : Int32)) → (ok_L_fails_656 x1 x3 M)))))
set_option maxRecDepth 100000 in
set_option maxHeartbeats 4000000 in
theorem bw_L_fails_635 {E : ps_E} {X : ps_X (Int32 × ps_M)} (C : ps_C (ps_Yc E) X cL_fails RL (some .boolean) 6 131 8) (RT : ps_RI (ps_Yc E) X cL_fails .boolean) (x1 : Int64) (x3 : Int32) (x5 : Int32) (M : ps_M) (hk : ok_L_fails_635 x1 x3 x5 M) : ps_G (ps_Yc E) X (fv_L_fails_635 x1 x3 x5 M) 635 [(0, .ref (ps_ad E 0)), (1, .long x1), (3, .int x3), (5, .int x5)] [] M := by
  unfold fv_L_fails_635
  unfold ok_L_fails_635 at hk
  refine gw_iload C 637 dL_fails_635 3 rfl rfl ?_
  refine gw_if_eq C 652 640 dL_fails_637 (by decide) rfl (fun c637 => ?_) (fun c637 => ?_)
  · refine gw_sub C [(0, .ref (ps_ad E 0)), (1, .long x1), (3, .int x3)] [0, 1, 2] rfl ?_
    exact bw_L_fails_652 C RT  x1 x3 M (hk.1 c637)
  · refine gw_aload_n C 641 dL_fails_640 0 rfl rfl ?_
    refine gw_iconst C 642 dL_fails_641 (v := 0) (by decide) rfl ?_
    refine gw_bipush C 644 dL_fails_642 (v := 7) (by decide) rfl ?_
    refine gw_cVp C 647 dL_fails_644 rfl yv_X5_clerk lk_L_29 [.int (0 : Int32), .int (7 : Int32)] [] rfl (ct_X5_clerk (E := E) (l := ps_l X) (0 : Int32) (7 : Int32) M (hk.2 c637).1) rc_P rfl (Nat.le_of_ble_eq_true rfl) (Nat.le_of_ble_eq_true rfl) (Nat.le_of_ble_eq_true rfl) ?_
    refine gw_bipush C 649 dL_fails_647 (v := (-2)) (by decide) rfl ?_
    refine gw_ic_ne C 656 652 dL_fails_649 (by decide) rfl (fun c649 => ?_) (fun c649 => ?_)
    · refine gw_sub C [(0, .ref (ps_ad E 0)), (1, .long x1), (3, .int x3)] [0, 1, 2] rfl ?_
      exact bw_L_fails_652 C RT  x1 x3 M ((hk.2 c637).2.1 c649)
    · refine gw_sub C [(0, .ref (ps_ad E 0)), (1, .long x1), (3, .int x3)] [0, 1, 2] rfl ?_
      exact bw_L_fails_656 C RT  x1 x3 M ((hk.2 c637).2.2 c649)
def fv_L_fails_567 (x1 : Int64) (x3 : Int32) (x5 : Int32) (x6 : Int32) (M : ps_M) : Int32 × ps_M := if (fv_X5_station (0 : Int32) (8 : Int32) M) = (-2 : Int32) then (if (fv_X5_papers (0 : Int32) (9 : Int32) M) = (-2 : Int32) then (if (fv_X5_arrivals (0 : Int32) (15 : Int32) M) = (-2 : Int32) then (if (fv_X5_queueIn (0 : Int32) (19 : Int32) M).1 = (-2 : Int32) then (if x6 = 0 then (fv_L_fails_635 x1 x3 x5 ((fv_X5_queueIn (0 : Int32) (19 : Int32) M).2)) else (if (fv_X5_queueIn (0 : Int32) ((19 : Int32) - x6) ((fv_X5_queueIn (0 : Int32) (19 : Int32) M).2)).1 = (-4 : Int32) then (fv_L_fails_635 x1 x3 x5 ((fv_X5_queueIn (0 : Int32) ((19 : Int32) - x6) ((fv_X5_queueIn (0 : Int32) (19 : Int32) M).2)).2)) else (fv_L_fails_656 x1 x3 ((fv_X5_queueIn (0 : Int32) ((19 : Int32) - x6) ((fv_X5_queueIn (0 : Int32) (19 : Int32) M).2)).2)))) else (fv_L_fails_656 x1 x3 ((fv_X5_queueIn (0 : Int32) (19 : Int32) M).2))) else (fv_L_fails_656 x1 x3 M)) else (fv_L_fails_656 x1 x3 M)) else (fv_L_fails_656 x1 x3 M)
def ok_L_fails_567 (x1 : Int64) (x3 : Int32) (x5 : Int32) (x6 : Int32) (M : ps_M) : Prop := (ok_X5_station (0 : Int32) (8 : Int32) M) ∧ (((fv_X5_station (0 : Int32) (8 : Int32) M) = (-2 : Int32) → ((ok_X5_papers (0 : Int32) (9 : Int32) M) ∧ (((fv_X5_papers (0 : Int32) (9 : Int32) M) = (-2 : Int32) → ((ok_X5_arrivals (0 : Int32) (15 : Int32) M) ∧ (((fv_X5_arrivals (0 : Int32) (15 : Int32) M) = (-2 : Int32) → ((ok_X5_queueIn (0 : Int32) (19 : Int32) M) ∧ (((fv_X5_queueIn (0 : Int32) (19 : Int32) M).1 = (-2 : Int32) → ((x6 = 0 → (ok_L_fails_635 x1 x3 x5 ((fv_X5_queueIn (0 : Int32) (19 : Int32) M).2))) ∧ (¬ (x6 = 0) → ((ok_X5_queueIn (0 : Int32) ((19 : Int32) - x6) ((fv_X5_queueIn (0 : Int32) (19 : Int32) M).2)) ∧ (((fv_X5_queueIn (0 : Int32) ((19 : Int32) - x6) ((fv_X5_queueIn (0 : Int32) (19 : Int32) M).2)).1 = (-4 : Int32) → (ok_L_fails_635 x1 x3 x5 ((fv_X5_queueIn (0 : Int32) ((19 : Int32) - x6) ((fv_X5_queueIn (0 : Int32) (19 : Int32) M).2)).2))) ∧ (¬ ((fv_X5_queueIn (0 : Int32) ((19 : Int32) - x6) ((fv_X5_queueIn (0 : Int32) (19 : Int32) M).2)).1 = (-4 : Int32)) → (ok_L_fails_656 x1 x3 ((fv_X5_queueIn (0 : Int32) ((19 : Int32) - x6) ((fv_X5_queueIn (0 : Int32) (19 : Int32) M).2)).2)))))))) ∧ (¬ ((fv_X5_queueIn (0 : Int32) (19 : Int32) M).1 = (-2 : Int32)) → (ok_L_fails_656 x1 x3 ((fv_X5_queueIn (0 : Int32) (19 : Int32) M).2)))))) ∧ (¬ ((fv_X5_arrivals (0 : Int32) (15 : Int32) M) = (-2 : Int32)) → (ok_L_fails_656 x1 x3 M))))) ∧ (¬ ((fv_X5_papers (0 : Int32) (9 : Int32) M) = (-2 : Int32)) → (ok_L_fails_656 x1 x3 M))))) ∧ (¬ ((fv_X5_station (0 : Int32) (8 : Int32) M) = (-2 : Int32)) → (ok_L_fails_656 x1 x3 M)))
set_option maxRecDepth 100000 in
set_option maxHeartbeats 4000000 in
theorem bw_L_fails_567 {E : ps_E} {X : ps_X (Int32 × ps_M)} (C : ps_C (ps_Yc E) X cL_fails RL (some .boolean) 6 131 8) (RT : ps_RI (ps_Yc E) X cL_fails .boolean) (x1 : Int64) (x3 : Int32) (x5 : Int32) (x6 : Int32) (M : ps_M) (hk : ok_L_fails_567 x1 x3 x5 x6 M) : ps_G (ps_Yc E) X (fv_L_fails_567 x1 x3 x5 x6 M) 567 [(0, .ref (ps_ad E 0)), (1, .long x1), (3, .int x3), (5, .int x5), (6, .int x6)] [] M := by
  unfold fv_L_fails_567
  unfold ok_L_fails_567 at hk
  refine gw_aload_n C 568 dL_fails_567 0 rfl rfl ?_
  refine gw_iconst C 569 dL_fails_568 (v := 0) (by decide) rfl ?_
  refine gw_bipush C 571 dL_fails_569 (v := 8) (by decide) rfl ?_
  refine gw_cVp C 574 dL_fails_571 rfl yv_X5_station lk_L_19 [.int (0 : Int32), .int (8 : Int32)] [] rfl (ct_X5_station (E := E) (l := ps_l X) (0 : Int32) (8 : Int32) M hk.1) rc_P rfl (Nat.le_of_ble_eq_true rfl) (Nat.le_of_ble_eq_true rfl) (Nat.le_of_ble_eq_true rfl) ?_
  refine gw_bipush C 576 dL_fails_574 (v := (-2)) (by decide) rfl ?_
  refine gw_ic_ne C 656 579 dL_fails_576 (by decide) rfl (fun c576 => ?_) (fun c576 => ?_)
  · refine gw_aload_n C 580 dL_fails_579 0 rfl rfl ?_
    refine gw_iconst C 581 dL_fails_580 (v := 0) (by decide) rfl ?_
    refine gw_bipush C 583 dL_fails_581 (v := 9) (by decide) rfl ?_
    refine gw_cVp C 586 dL_fails_583 rfl yv_X5_papers lk_L_23 [.int (0 : Int32), .int (9 : Int32)] [] rfl (ct_X5_papers (E := E) (l := ps_l X) (0 : Int32) (9 : Int32) M (hk.2.1 c576).1) rc_P rfl (Nat.le_of_ble_eq_true rfl) (Nat.le_of_ble_eq_true rfl) (Nat.le_of_ble_eq_true rfl) ?_
    refine gw_bipush C 588 dL_fails_586 (v := (-2)) (by decide) rfl ?_
    refine gw_ic_ne C 656 591 dL_fails_588 (by decide) rfl (fun c588 => ?_) (fun c588 => ?_)
    · refine gw_aload_n C 592 dL_fails_591 0 rfl rfl ?_
      refine gw_iconst C 593 dL_fails_592 (v := 0) (by decide) rfl ?_
      refine gw_bipush C 595 dL_fails_593 (v := 15) (by decide) rfl ?_
      refine gw_cVp C 598 dL_fails_595 rfl yv_X5_arrivals lk_L_26 [.int (0 : Int32), .int (15 : Int32)] [] rfl (ct_X5_arrivals (E := E) (l := ps_l X) (0 : Int32) (15 : Int32) M ((hk.2.1 c576).2.1 c588).1) rc_P rfl (Nat.le_of_ble_eq_true rfl) (Nat.le_of_ble_eq_true rfl) (Nat.le_of_ble_eq_true rfl) ?_
      refine gw_bipush C 600 dL_fails_598 (v := (-2)) (by decide) rfl ?_
      refine gw_ic_ne C 656 603 dL_fails_600 (by decide) rfl (fun c600 => ?_) (fun c600 => ?_)
      · refine gw_aload_n C 604 dL_fails_603 0 rfl rfl ?_
        refine gw_iconst C 605 dL_fails_604 (v := 0) (by decide) rfl ?_
        refine gw_bipush C 607 dL_fails_605 (v := 19) (by decide) rfl ?_
        refine gw_cVi C 610 dL_fails_607 rfl yv_X5_queueIn lk_L_81 [.int (0 : Int32), .int (19 : Int32)] [] rfl (ct_X5_queueIn (E := E) (l := ps_l X) (0 : Int32) (19 : Int32) M (((hk.2.1 c576).2.1 c588).2.1 c600).1) rc_P rfl (Nat.le_of_ble_eq_true rfl) (Nat.le_of_ble_eq_true rfl) (Nat.le_of_ble_eq_true rfl) ?_
        refine gw_bipush C 612 dL_fails_610 (v := (-2)) (by decide) rfl ?_
        refine gw_ic_ne C 656 615 dL_fails_612 (by decide) rfl (fun c612 => ?_) (fun c612 => ?_)
        · refine gw_iload C 617 dL_fails_615 4 rfl rfl ?_
          refine gw_if_eq C 635 620 dL_fails_617 (by decide) rfl (fun c617 => ?_) (fun c617 => ?_)
          · refine gw_sub C [(0, .ref (ps_ad E 0)), (1, .long x1), (3, .int x3), (5, .int x5)] [0, 1, 2, 3] rfl ?_
            exact bw_L_fails_635 C RT  x1 x3 x5 ((fv_X5_queueIn (0 : Int32) (19 : Int32) M).2) (((((hk.2.1 c576).2.1 c588).2.1 c600).2.1 c612).1 c617)
          · refine gw_aload_n C 621 dL_fails_620 0 rfl rfl ?_
            refine gw_iconst C 622 dL_fails_621 (v := 0) (by decide) rfl ?_
            refine gw_bipush C 624 dL_fails_622 (v := 19) (by decide) rfl ?_
            refine gw_iload C 626 dL_fails_624 4 rfl rfl ?_
            refine gw_isub C 627 dL_fails_626 rfl ?_
            refine gw_cVi C 630 dL_fails_627 rfl yv_X5_queueIn lk_L_81 [.int (0 : Int32), .int ((19 : Int32) - x6)] [] rfl (ct_X5_queueIn (E := E) (l := ps_l X) (0 : Int32) ((19 : Int32) - x6) ((fv_X5_queueIn (0 : Int32) (19 : Int32) M).2) (((((hk.2.1 c576).2.1 c588).2.1 c600).2.1 c612).2 c617).1) rc_P rfl (Nat.le_of_ble_eq_true rfl) (Nat.le_of_ble_eq_true rfl) (Nat.le_of_ble_eq_true rfl) ?_
            refine gw_bipush C 632 dL_fails_630 (v := (-4)) (by decide) rfl ?_
            refine gw_ic_ne C 656 635 dL_fails_632 (by decide) rfl (fun c632 => ?_) (fun c632 => ?_)
            · refine gw_sub C [(0, .ref (ps_ad E 0)), (1, .long x1), (3, .int x3), (5, .int x5)] [0, 1, 2, 3] rfl ?_
              exact bw_L_fails_635 C RT  x1 x3 x5 ((fv_X5_queueIn (0 : Int32) ((19 : Int32) - x6) ((fv_X5_queueIn (0 : Int32) (19 : Int32) M).2)).2) ((((((hk.2.1 c576).2.1 c588).2.1 c600).2.1 c612).2 c617).2.1 c632)
            · refine gw_sub C [(0, .ref (ps_ad E 0)), (1, .long x1), (3, .int x3)] [0, 1, 2] rfl ?_
              exact bw_L_fails_656 C RT  x1 x3 ((fv_X5_queueIn (0 : Int32) ((19 : Int32) - x6) ((fv_X5_queueIn (0 : Int32) (19 : Int32) M).2)).2) ((((((hk.2.1 c576).2.1 c588).2.1 c600).2.1 c612).2 c617).2.2 c632)
        · refine gw_sub C [(0, .ref (ps_ad E 0)), (1, .long x1), (3, .int x3)] [0, 1, 2] rfl ?_
          exact bw_L_fails_656 C RT  x1 x3 ((fv_X5_queueIn (0 : Int32) (19 : Int32) M).2) ((((hk.2.1 c576).2.1 c588).2.1 c600).2.2 c612)
      · refine gw_sub C [(0, .ref (ps_ad E 0)), (1, .long x1), (3, .int x3)] [0, 1, 2] rfl ?_
        exact bw_L_fails_656 C RT  x1 x3 M (((hk.2.1 c576).2.1 c588).2.2 c600)
    · refine gw_sub C [(0, .ref (ps_ad E 0)), (1, .long x1), (3, .int x3)] [0, 1, 2] rfl ?_
      exact bw_L_fails_656 C RT  x1 x3 M ((hk.2.1 c576).2.2 c588)
  · refine gw_sub C [(0, .ref (ps_ad E 0)), (1, .long x1), (3, .int x3)] [0, 1, 2] rfl ?_
    exact bw_L_fails_656 C RT  x1 x3 M (hk.2.2 c576)
def fv_L_fails_532 (x1 : Int64) (x3 : Int32) (x5 : Int32) (x6 : Int32) (s0 : Int32) (M : ps_M) : Int32 × ps_M := if s0 = (-2 : Int32) then (if (fv_X5_countBox (0 : Int32) (100000 : Int32) M).1 = (-2 : Int32) then (if (14 : Int32) < x6 then (fv_L_fails_567 x1 x3 x5 x6 ((fv_X5_countBox (0 : Int32) (100000 : Int32) M).2)) else (if (fv_X5_countBox (0 : Int32) (0 : Int32) ((fv_X5_countBox (0 : Int32) (100000 : Int32) M).2)).1 = (-4 : Int32) then (fv_L_fails_567 x1 x3 x5 x6 ((fv_X5_countBox (0 : Int32) (0 : Int32) ((fv_X5_countBox (0 : Int32) (100000 : Int32) M).2)).2)) else (fv_L_fails_656 x1 x3 ((fv_X5_countBox (0 : Int32) (0 : Int32) ((fv_X5_countBox (0 : Int32) (100000 : Int32) M).2)).2)))) else (fv_L_fails_656 x1 x3 ((fv_X5_countBox (0 : Int32) (100000 : Int32) M).2))) else (fv_L_fails_656 x1 x3 M)
def ok_L_fails_532 (x1 : Int64) (x3 : Int32) (x5 : Int32) (x6 : Int32) (s0 : Int32) (M : ps_M) : Prop := (s0 = (-2 : Int32) → ((ok_X5_countBox (0 : Int32) (100000 : Int32) M) ∧ (((fv_X5_countBox (0 : Int32) (100000 : Int32) M).1 = (-2 : Int32) → (((14 : Int32) < x6 → (ok_L_fails_567 x1 x3 x5 x6 ((fv_X5_countBox (0 : Int32) (100000 : Int32) M).2))) ∧ (¬ ((14 : Int32) < x6) → ((ok_X5_countBox (0 : Int32) (0 : Int32) ((fv_X5_countBox (0 : Int32) (100000 : Int32) M).2)) ∧ (((fv_X5_countBox (0 : Int32) (0 : Int32) ((fv_X5_countBox (0 : Int32) (100000 : Int32) M).2)).1 = (-4 : Int32) → (ok_L_fails_567 x1 x3 x5 x6 ((fv_X5_countBox (0 : Int32) (0 : Int32) ((fv_X5_countBox (0 : Int32) (100000 : Int32) M).2)).2))) ∧ (¬ ((fv_X5_countBox (0 : Int32) (0 : Int32) ((fv_X5_countBox (0 : Int32) (100000 : Int32) M).2)).1 = (-4 : Int32)) → (ok_L_fails_656 x1 x3 ((fv_X5_countBox (0 : Int32) (0 : Int32) ((fv_X5_countBox (0 : Int32) (100000 : Int32) M).2)).2)))))))) ∧ (¬ ((fv_X5_countBox (0 : Int32) (100000 : Int32) M).1 = (-2 : Int32)) → (ok_L_fails_656 x1 x3 ((fv_X5_countBox (0 : Int32) (100000 : Int32) M).2)))))) ∧ (¬ (s0 = (-2 : Int32)) → (ok_L_fails_656 x1 x3 M))
set_option maxRecDepth 100000 in
set_option maxHeartbeats 4000000 in
theorem bw_L_fails_532 {E : ps_E} {X : ps_X (Int32 × ps_M)} (C : ps_C (ps_Yc E) X cL_fails RL (some .boolean) 6 131 8) (RT : ps_RI (ps_Yc E) X cL_fails .boolean) (x1 : Int64) (x3 : Int32) (x5 : Int32) (x6 : Int32) (s0 : Int32) (M : ps_M) (hk : ok_L_fails_532 x1 x3 x5 x6 s0 M) : ps_G (ps_Yc E) X (fv_L_fails_532 x1 x3 x5 x6 s0 M) 532 [(0, .ref (ps_ad E 0)), (1, .long x1), (3, .int x3), (5, .int x5), (6, .int x6)] [.int s0] M := by
  unfold fv_L_fails_532
  unfold ok_L_fails_532 at hk
  refine gw_bipush C 534 dL_fails_532 (v := (-2)) (by decide) rfl ?_
  refine gw_ic_ne C 656 537 dL_fails_534 (by decide) rfl (fun c534 => ?_) (fun c534 => ?_)
  · refine gw_aload_n C 538 dL_fails_537 0 rfl rfl ?_
    refine gw_iconst C 539 dL_fails_538 (v := 0) (by decide) rfl ?_
    refine gw_ldc C 541 dL_fails_539 lk_L_87 rfl ?_
    refine gw_cVi C 544 dL_fails_541 rfl yv_X5_countBox lk_L_69 [.int (0 : Int32), .int (100000 : Int32)] [] rfl (ct_X5_countBox (E := E) (l := ps_l X) (0 : Int32) (100000 : Int32) M (hk.1 c534).1) rc_P rfl (Nat.le_of_ble_eq_true rfl) (Nat.le_of_ble_eq_true rfl) (Nat.le_of_ble_eq_true rfl) ?_
    refine gw_bipush C 546 dL_fails_544 (v := (-2)) (by decide) rfl ?_
    refine gw_ic_ne C 656 549 dL_fails_546 (by decide) rfl (fun c546 => ?_) (fun c546 => ?_)
    · refine gw_iload C 551 dL_fails_549 4 rfl rfl ?_
      refine gw_bipush C 553 dL_fails_551 (v := 14) (by decide) rfl ?_
      refine gw_ic_gt C 567 556 dL_fails_553 (by decide) rfl (fun c553 => ?_) (fun c553 => ?_)
      · exact bw_L_fails_567 C RT  x1 x3 x5 x6 ((fv_X5_countBox (0 : Int32) (100000 : Int32) M).2) (((hk.1 c534).2.1 c546).1 c553)
      · refine gw_aload_n C 557 dL_fails_556 0 rfl rfl ?_
        refine gw_iconst C 558 dL_fails_557 (v := 0) (by decide) rfl ?_
        refine gw_iconst C 559 dL_fails_558 (v := 0) (by decide) rfl ?_
        refine gw_cVi C 562 dL_fails_559 rfl yv_X5_countBox lk_L_69 [.int (0 : Int32), .int (0 : Int32)] [] rfl (ct_X5_countBox (E := E) (l := ps_l X) (0 : Int32) (0 : Int32) ((fv_X5_countBox (0 : Int32) (100000 : Int32) M).2) (((hk.1 c534).2.1 c546).2 c553).1) rc_P rfl (Nat.le_of_ble_eq_true rfl) (Nat.le_of_ble_eq_true rfl) (Nat.le_of_ble_eq_true rfl) ?_
        refine gw_bipush C 564 dL_fails_562 (v := (-4)) (by decide) rfl ?_
        refine gw_ic_ne C 656 567 dL_fails_564 (by decide) rfl (fun c564 => ?_) (fun c564 => ?_)
        · exact bw_L_fails_567 C RT  x1 x3 x5 x6 ((fv_X5_countBox (0 : Int32) (0 : Int32) ((fv_X5_countBox (0 : Int32) (100000 : Int32) M).2)).2) ((((hk.1 c534).2.1 c546).2 c553).2.1 c564)
        · refine gw_sub C [(0, .ref (ps_ad E 0)), (1, .long x1), (3, .int x3)] [0, 1, 2] rfl ?_
          exact bw_L_fails_656 C RT  x1 x3 ((fv_X5_countBox (0 : Int32) (0 : Int32) ((fv_X5_countBox (0 : Int32) (100000 : Int32) M).2)).2) ((((hk.1 c534).2.1 c546).2 c553).2.2 c564)
    · refine gw_sub C [(0, .ref (ps_ad E 0)), (1, .long x1), (3, .int x3)] [0, 1, 2] rfl ?_
      exact bw_L_fails_656 C RT  x1 x3 ((fv_X5_countBox (0 : Int32) (100000 : Int32) M).2) ((hk.1 c534).2.2 c546)
  · refine gw_sub C [(0, .ref (ps_ad E 0)), (1, .long x1), (3, .int x3)] [0, 1, 2] rfl ?_
    exact bw_L_fails_656 C RT  x1 x3 M (hk.2 c534)
def fv_L_fails_484 (x1 : Int64) (x3 : Int32) (x5 : Int32) (x6 : Int32) (s0 : Int32) (M : ps_M) : Int32 × ps_M := if s0 = (-2 : Int32) then (if (fv_X5_spoil (0 : Int32) (0 : Int32) M).1 = (-2 : Int32) then (if (fv_X5_spoil (0 : Int32) (9999 : Int32) ((fv_X5_spoil (0 : Int32) (0 : Int32) M).2)).1 = (-4 : Int32) then (if (fv_X5_carryOff (0 : Int32) (0 : Int32) ((fv_X5_spoil (0 : Int32) (9999 : Int32) ((fv_X5_spoil (0 : Int32) (0 : Int32) M).2)).2)).1 = (-2 : Int32) then (fv_L_fails_532 x1 x3 x5 x6 ((fv_X5_find (0 : Int32) (10000 : Int32) ((fv_X5_carryOff (0 : Int32) (0 : Int32) ((fv_X5_spoil (0 : Int32) (9999 : Int32) ((fv_X5_spoil (0 : Int32) (0 : Int32) M).2)).2)).2)).1) ((fv_X5_find (0 : Int32) (10000 : Int32) ((fv_X5_carryOff (0 : Int32) (0 : Int32) ((fv_X5_spoil (0 : Int32) (9999 : Int32) ((fv_X5_spoil (0 : Int32) (0 : Int32) M).2)).2)).2)).2)) else (fv_L_fails_656 x1 x3 ((fv_X5_carryOff (0 : Int32) (0 : Int32) ((fv_X5_spoil (0 : Int32) (9999 : Int32) ((fv_X5_spoil (0 : Int32) (0 : Int32) M).2)).2)).2))) else (fv_L_fails_656 x1 x3 ((fv_X5_spoil (0 : Int32) (9999 : Int32) ((fv_X5_spoil (0 : Int32) (0 : Int32) M).2)).2))) else (fv_L_fails_656 x1 x3 ((fv_X5_spoil (0 : Int32) (0 : Int32) M).2))) else (fv_L_fails_656 x1 x3 M)
def ok_L_fails_484 (x1 : Int64) (x3 : Int32) (x5 : Int32) (x6 : Int32) (s0 : Int32) (M : ps_M) : Prop := (s0 = (-2 : Int32) → ((ok_X5_spoil (0 : Int32) (0 : Int32) M) ∧ (((fv_X5_spoil (0 : Int32) (0 : Int32) M).1 = (-2 : Int32) → ((ok_X5_spoil (0 : Int32) (9999 : Int32) ((fv_X5_spoil (0 : Int32) (0 : Int32) M).2)) ∧ (((fv_X5_spoil (0 : Int32) (9999 : Int32) ((fv_X5_spoil (0 : Int32) (0 : Int32) M).2)).1 = (-4 : Int32) → ((ok_X5_carryOff (0 : Int32) (0 : Int32) ((fv_X5_spoil (0 : Int32) (9999 : Int32) ((fv_X5_spoil (0 : Int32) (0 : Int32) M).2)).2)) ∧ (((fv_X5_carryOff (0 : Int32) (0 : Int32) ((fv_X5_spoil (0 : Int32) (9999 : Int32) ((fv_X5_spoil (0 : Int32) (0 : Int32) M).2)).2)).1 = (-2 : Int32) → ((ok_X5_find (0 : Int32) (10000 : Int32) ((fv_X5_carryOff (0 : Int32) (0 : Int32) ((fv_X5_spoil (0 : Int32) (9999 : Int32) ((fv_X5_spoil (0 : Int32) (0 : Int32) M).2)).2)).2)) ∧ (ok_L_fails_532 x1 x3 x5 x6 ((fv_X5_find (0 : Int32) (10000 : Int32) ((fv_X5_carryOff (0 : Int32) (0 : Int32) ((fv_X5_spoil (0 : Int32) (9999 : Int32) ((fv_X5_spoil (0 : Int32) (0 : Int32) M).2)).2)).2)).1) ((fv_X5_find (0 : Int32) (10000 : Int32) ((fv_X5_carryOff (0 : Int32) (0 : Int32) ((fv_X5_spoil (0 : Int32) (9999 : Int32) ((fv_X5_spoil (0 : Int32) (0 : Int32) M).2)).2)).2)).2)))) ∧ (¬ ((fv_X5_carryOff (0 : Int32) (0 : Int32) ((fv_X5_spoil (0 : Int32) (9999 : Int32) ((fv_X5_spoil (0 : Int32) (0 : Int32) M).2)).2)).1 = (-2 : Int32)) → (ok_L_fails_656 x1 x3 ((fv_X5_carryOff (0 : Int32) (0 : Int32) ((fv_X5_spoil (0 : Int32) (9999 : Int32) ((fv_X5_spoil (0 : Int32) (0 : Int32) M).2)).2)).2)))))) ∧ (¬ ((fv_X5_spoil (0 : Int32) (9999 : Int32) ((fv_X5_spoil (0 : Int32) (0 : Int32) M).2)).1 = (-4 : Int32)) → (ok_L_fails_656 x1 x3 ((fv_X5_spoil (0 : Int32) (9999 : Int32) ((fv_X5_spoil (0 : Int32) (0 : Int32) M).2)).2)))))) ∧ (¬ ((fv_X5_spoil (0 : Int32) (0 : Int32) M).1 = (-2 : Int32)) → (ok_L_fails_656 x1 x3 ((fv_X5_spoil (0 : Int32) (0 : Int32) M).2)))))) ∧ (¬ (s0 = (-2 : Int32)) → (ok_L_fails_656 x1 x3 M))
set_option maxRecDepth 100000 in
set_option maxHeartbeats 4000000 in
theorem bw_L_fails_484 {E : ps_E} {X : ps_X (Int32 × ps_M)} (C : ps_C (ps_Yc E) X cL_fails RL (some .boolean) 6 131 8) (RT : ps_RI (ps_Yc E) X cL_fails .boolean) (x1 : Int64) (x3 : Int32) (x5 : Int32) (x6 : Int32) (s0 : Int32) (M : ps_M) (hk : ok_L_fails_484 x1 x3 x5 x6 s0 M) : ps_G (ps_Yc E) X (fv_L_fails_484 x1 x3 x5 x6 s0 M) 484 [(0, .ref (ps_ad E 0)), (1, .long x1), (3, .int x3), (5, .int x5), (6, .int x6)] [.int s0] M := by
  unfold fv_L_fails_484
  unfold ok_L_fails_484 at hk
  refine gw_bipush C 486 dL_fails_484 (v := (-2)) (by decide) rfl ?_
  refine gw_ic_ne C 656 489 dL_fails_486 (by decide) rfl (fun c486 => ?_) (fun c486 => ?_)
  · refine gw_aload_n C 490 dL_fails_489 0 rfl rfl ?_
    refine gw_iconst C 491 dL_fails_490 (v := 0) (by decide) rfl ?_
    refine gw_iconst C 492 dL_fails_491 (v := 0) (by decide) rfl ?_
    refine gw_cVi C 495 dL_fails_492 rfl yv_X5_spoil lk_L_60 [.int (0 : Int32), .int (0 : Int32)] [] rfl (ct_X5_spoil (E := E) (l := ps_l X) (0 : Int32) (0 : Int32) M (hk.1 c486).1) rc_P rfl (Nat.le_of_ble_eq_true rfl) (Nat.le_of_ble_eq_true rfl) (Nat.le_of_ble_eq_true rfl) ?_
    refine gw_bipush C 497 dL_fails_495 (v := (-2)) (by decide) rfl ?_
    refine gw_ic_ne C 656 500 dL_fails_497 (by decide) rfl (fun c497 => ?_) (fun c497 => ?_)
    · refine gw_aload_n C 501 dL_fails_500 0 rfl rfl ?_
      refine gw_iconst C 502 dL_fails_501 (v := 0) (by decide) rfl ?_
      refine gw_sipush C 505 dL_fails_502 (v := 9999) (by decide) rfl ?_
      refine gw_cVi C 508 dL_fails_505 rfl yv_X5_spoil lk_L_60 [.int (0 : Int32), .int (9999 : Int32)] [] rfl (ct_X5_spoil (E := E) (l := ps_l X) (0 : Int32) (9999 : Int32) ((fv_X5_spoil (0 : Int32) (0 : Int32) M).2) ((hk.1 c486).2.1 c497).1) rc_P rfl (Nat.le_of_ble_eq_true rfl) (Nat.le_of_ble_eq_true rfl) (Nat.le_of_ble_eq_true rfl) ?_
      refine gw_bipush C 510 dL_fails_508 (v := (-4)) (by decide) rfl ?_
      refine gw_ic_ne C 656 513 dL_fails_510 (by decide) rfl (fun c510 => ?_) (fun c510 => ?_)
      · refine gw_aload_n C 514 dL_fails_513 0 rfl rfl ?_
        refine gw_iconst C 515 dL_fails_514 (v := 0) (by decide) rfl ?_
        refine gw_iconst C 516 dL_fails_515 (v := 0) (by decide) rfl ?_
        refine gw_cVi C 519 dL_fails_516 rfl yv_X5_carryOff lk_L_63 [.int (0 : Int32), .int (0 : Int32)] [] rfl (ct_X5_carryOff (E := E) (l := ps_l X) (0 : Int32) (0 : Int32) ((fv_X5_spoil (0 : Int32) (9999 : Int32) ((fv_X5_spoil (0 : Int32) (0 : Int32) M).2)).2) (((hk.1 c486).2.1 c497).2.1 c510).1) rc_P rfl (Nat.le_of_ble_eq_true rfl) (Nat.le_of_ble_eq_true rfl) (Nat.le_of_ble_eq_true rfl) ?_
        refine gw_bipush C 521 dL_fails_519 (v := (-2)) (by decide) rfl ?_
        refine gw_ic_ne C 656 524 dL_fails_521 (by decide) rfl (fun c521 => ?_) (fun c521 => ?_)
        · refine gw_aload_n C 525 dL_fails_524 0 rfl rfl ?_
          refine gw_iconst C 526 dL_fails_525 (v := 0) (by decide) rfl ?_
          refine gw_sipush C 529 dL_fails_526 (v := 10000) (by decide) rfl ?_
          refine gw_cVi C 532 dL_fails_529 rfl yv_X5_find lk_L_66 [.int (0 : Int32), .int (10000 : Int32)] [] rfl (ct_X5_find (E := E) (l := ps_l X) (0 : Int32) (10000 : Int32) ((fv_X5_carryOff (0 : Int32) (0 : Int32) ((fv_X5_spoil (0 : Int32) (9999 : Int32) ((fv_X5_spoil (0 : Int32) (0 : Int32) M).2)).2)).2) ((((hk.1 c486).2.1 c497).2.1 c510).2.1 c521).1) rc_P rfl (Nat.le_of_ble_eq_true rfl) (Nat.le_of_ble_eq_true rfl) (Nat.le_of_ble_eq_true rfl) ?_
          exact bw_L_fails_532 C RT  x1 x3 x5 x6 ((fv_X5_find (0 : Int32) (10000 : Int32) ((fv_X5_carryOff (0 : Int32) (0 : Int32) ((fv_X5_spoil (0 : Int32) (9999 : Int32) ((fv_X5_spoil (0 : Int32) (0 : Int32) M).2)).2)).2)).1) ((fv_X5_find (0 : Int32) (10000 : Int32) ((fv_X5_carryOff (0 : Int32) (0 : Int32) ((fv_X5_spoil (0 : Int32) (9999 : Int32) ((fv_X5_spoil (0 : Int32) (0 : Int32) M).2)).2)).2)).2) ((((hk.1 c486).2.1 c497).2.1 c510).2.1 c521).2
        · refine gw_sub C [(0, .ref (ps_ad E 0)), (1, .long x1), (3, .int x3)] [0, 1, 2] rfl ?_
          exact bw_L_fails_656 C RT  x1 x3 ((fv_X5_carryOff (0 : Int32) (0 : Int32) ((fv_X5_spoil (0 : Int32) (9999 : Int32) ((fv_X5_spoil (0 : Int32) (0 : Int32) M).2)).2)).2) ((((hk.1 c486).2.1 c497).2.1 c510).2.2 c521)
      · refine gw_sub C [(0, .ref (ps_ad E 0)), (1, .long x1), (3, .int x3)] [0, 1, 2] rfl ?_
        exact bw_L_fails_656 C RT  x1 x3 ((fv_X5_spoil (0 : Int32) (9999 : Int32) ((fv_X5_spoil (0 : Int32) (0 : Int32) M).2)).2) (((hk.1 c486).2.1 c497).2.2 c510)
    · refine gw_sub C [(0, .ref (ps_ad E 0)), (1, .long x1), (3, .int x3)] [0, 1, 2] rfl ?_
      exact bw_L_fails_656 C RT  x1 x3 ((fv_X5_spoil (0 : Int32) (0 : Int32) M).2) ((hk.1 c486).2.2 c497)
  · refine gw_sub C [(0, .ref (ps_ad E 0)), (1, .long x1), (3, .int x3)] [0, 1, 2] rfl ?_
    exact bw_L_fails_656 C RT  x1 x3 M (hk.2 c486)
def fv_L_fails_448 (x1 : Int64) (x3 : Int32) (x5 : Int32) (x6 : Int32) (s0 : Int32) (M : ps_M) : Int32 × ps_M := if s0 = (-2 : Int32) then (if (fv_X5_supply (0 : Int32) (0 : Int32) M).1 = (-2 : Int32) then (if (fv_X5_supply (0 : Int32) (10000 : Int32) ((fv_X5_supply (0 : Int32) (0 : Int32) M).2)).1 = (-2 : Int32) then (fv_L_fails_484 x1 x3 x5 x6 ((fv_X5_movePapers (0 : Int32) (0 : Int32) (1 : Int32) ((fv_X5_supply (0 : Int32) (10000 : Int32) ((fv_X5_supply (0 : Int32) (0 : Int32) M).2)).2)).1) ((fv_X5_movePapers (0 : Int32) (0 : Int32) (1 : Int32) ((fv_X5_supply (0 : Int32) (10000 : Int32) ((fv_X5_supply (0 : Int32) (0 : Int32) M).2)).2)).2)) else (fv_L_fails_656 x1 x3 ((fv_X5_supply (0 : Int32) (10000 : Int32) ((fv_X5_supply (0 : Int32) (0 : Int32) M).2)).2))) else (fv_L_fails_656 x1 x3 ((fv_X5_supply (0 : Int32) (0 : Int32) M).2))) else (fv_L_fails_656 x1 x3 M)
def ok_L_fails_448 (x1 : Int64) (x3 : Int32) (x5 : Int32) (x6 : Int32) (s0 : Int32) (M : ps_M) : Prop := (s0 = (-2 : Int32) → ((ok_X5_supply (0 : Int32) (0 : Int32) M) ∧ (((fv_X5_supply (0 : Int32) (0 : Int32) M).1 = (-2 : Int32) → ((ok_X5_supply (0 : Int32) (10000 : Int32) ((fv_X5_supply (0 : Int32) (0 : Int32) M).2)) ∧ (((fv_X5_supply (0 : Int32) (10000 : Int32) ((fv_X5_supply (0 : Int32) (0 : Int32) M).2)).1 = (-2 : Int32) → ((ok_X5_movePapers (0 : Int32) (0 : Int32) (1 : Int32) ((fv_X5_supply (0 : Int32) (10000 : Int32) ((fv_X5_supply (0 : Int32) (0 : Int32) M).2)).2)) ∧ (ok_L_fails_484 x1 x3 x5 x6 ((fv_X5_movePapers (0 : Int32) (0 : Int32) (1 : Int32) ((fv_X5_supply (0 : Int32) (10000 : Int32) ((fv_X5_supply (0 : Int32) (0 : Int32) M).2)).2)).1) ((fv_X5_movePapers (0 : Int32) (0 : Int32) (1 : Int32) ((fv_X5_supply (0 : Int32) (10000 : Int32) ((fv_X5_supply (0 : Int32) (0 : Int32) M).2)).2)).2)))) ∧ (¬ ((fv_X5_supply (0 : Int32) (10000 : Int32) ((fv_X5_supply (0 : Int32) (0 : Int32) M).2)).1 = (-2 : Int32)) → (ok_L_fails_656 x1 x3 ((fv_X5_supply (0 : Int32) (10000 : Int32) ((fv_X5_supply (0 : Int32) (0 : Int32) M).2)).2)))))) ∧ (¬ ((fv_X5_supply (0 : Int32) (0 : Int32) M).1 = (-2 : Int32)) → (ok_L_fails_656 x1 x3 ((fv_X5_supply (0 : Int32) (0 : Int32) M).2)))))) ∧ (¬ (s0 = (-2 : Int32)) → (ok_L_fails_656 x1 x3 M))
set_option maxRecDepth 100000 in
set_option maxHeartbeats 4000000 in
theorem bw_L_fails_448 {E : ps_E} {X : ps_X (Int32 × ps_M)} (C : ps_C (ps_Yc E) X cL_fails RL (some .boolean) 6 131 8) (RT : ps_RI (ps_Yc E) X cL_fails .boolean) (x1 : Int64) (x3 : Int32) (x5 : Int32) (x6 : Int32) (s0 : Int32) (M : ps_M) (hk : ok_L_fails_448 x1 x3 x5 x6 s0 M) : ps_G (ps_Yc E) X (fv_L_fails_448 x1 x3 x5 x6 s0 M) 448 [(0, .ref (ps_ad E 0)), (1, .long x1), (3, .int x3), (5, .int x5), (6, .int x6)] [.int s0] M := by
  unfold fv_L_fails_448
  unfold ok_L_fails_448 at hk
  refine gw_bipush C 450 dL_fails_448 (v := (-2)) (by decide) rfl ?_
  refine gw_ic_ne C 656 453 dL_fails_450 (by decide) rfl (fun c450 => ?_) (fun c450 => ?_)
  · refine gw_aload_n C 454 dL_fails_453 0 rfl rfl ?_
    refine gw_iconst C 455 dL_fails_454 (v := 0) (by decide) rfl ?_
    refine gw_iconst C 456 dL_fails_455 (v := 0) (by decide) rfl ?_
    refine gw_cVi C 459 dL_fails_456 rfl yv_X5_supply lk_L_54 [.int (0 : Int32), .int (0 : Int32)] [] rfl (ct_X5_supply (E := E) (l := ps_l X) (0 : Int32) (0 : Int32) M (hk.1 c450).1) rc_P rfl (Nat.le_of_ble_eq_true rfl) (Nat.le_of_ble_eq_true rfl) (Nat.le_of_ble_eq_true rfl) ?_
    refine gw_bipush C 461 dL_fails_459 (v := (-2)) (by decide) rfl ?_
    refine gw_ic_ne C 656 464 dL_fails_461 (by decide) rfl (fun c461 => ?_) (fun c461 => ?_)
    · refine gw_aload_n C 465 dL_fails_464 0 rfl rfl ?_
      refine gw_iconst C 466 dL_fails_465 (v := 0) (by decide) rfl ?_
      refine gw_sipush C 469 dL_fails_466 (v := 10000) (by decide) rfl ?_
      refine gw_cVi C 472 dL_fails_469 rfl yv_X5_supply lk_L_54 [.int (0 : Int32), .int (10000 : Int32)] [] rfl (ct_X5_supply (E := E) (l := ps_l X) (0 : Int32) (10000 : Int32) ((fv_X5_supply (0 : Int32) (0 : Int32) M).2) ((hk.1 c450).2.1 c461).1) rc_P rfl (Nat.le_of_ble_eq_true rfl) (Nat.le_of_ble_eq_true rfl) (Nat.le_of_ble_eq_true rfl) ?_
      refine gw_bipush C 474 dL_fails_472 (v := (-2)) (by decide) rfl ?_
      refine gw_ic_ne C 656 477 dL_fails_474 (by decide) rfl (fun c474 => ?_) (fun c474 => ?_)
      · refine gw_aload_n C 478 dL_fails_477 0 rfl rfl ?_
        refine gw_iconst C 479 dL_fails_478 (v := 0) (by decide) rfl ?_
        refine gw_iconst C 480 dL_fails_479 (v := 0) (by decide) rfl ?_
        refine gw_iconst C 481 dL_fails_480 (v := 1) (by decide) rfl ?_
        refine gw_cVi C 484 dL_fails_481 rfl yv_X5_movePapers lk_L_57 [.int (0 : Int32), .int (0 : Int32), .int (1 : Int32)] [] rfl (ct_X5_movePapers (E := E) (l := ps_l X) (0 : Int32) (0 : Int32) (1 : Int32) ((fv_X5_supply (0 : Int32) (10000 : Int32) ((fv_X5_supply (0 : Int32) (0 : Int32) M).2)).2) (((hk.1 c450).2.1 c461).2.1 c474).1) rc_P rfl (Nat.le_of_ble_eq_true rfl) (Nat.le_of_ble_eq_true rfl) (Nat.le_of_ble_eq_true rfl) ?_
        exact bw_L_fails_484 C RT  x1 x3 x5 x6 ((fv_X5_movePapers (0 : Int32) (0 : Int32) (1 : Int32) ((fv_X5_supply (0 : Int32) (10000 : Int32) ((fv_X5_supply (0 : Int32) (0 : Int32) M).2)).2)).1) ((fv_X5_movePapers (0 : Int32) (0 : Int32) (1 : Int32) ((fv_X5_supply (0 : Int32) (10000 : Int32) ((fv_X5_supply (0 : Int32) (0 : Int32) M).2)).2)).2) (((hk.1 c450).2.1 c461).2.1 c474).2
      · refine gw_sub C [(0, .ref (ps_ad E 0)), (1, .long x1), (3, .int x3)] [0, 1, 2] rfl ?_
        exact bw_L_fails_656 C RT  x1 x3 ((fv_X5_supply (0 : Int32) (10000 : Int32) ((fv_X5_supply (0 : Int32) (0 : Int32) M).2)).2) (((hk.1 c450).2.1 c461).2.2 c474)
    · refine gw_sub C [(0, .ref (ps_ad E 0)), (1, .long x1), (3, .int x3)] [0, 1, 2] rfl ?_
      exact bw_L_fails_656 C RT  x1 x3 ((fv_X5_supply (0 : Int32) (0 : Int32) M).2) ((hk.1 c450).2.2 c461)
  · refine gw_sub C [(0, .ref (ps_ad E 0)), (1, .long x1), (3, .int x3)] [0, 1, 2] rfl ?_
    exact bw_L_fails_656 C RT  x1 x3 M (hk.2 c450)
def fv_L_fails_398 (x1 : Int64) (x3 : Int32) (x4 : Int32) (x5 : Int32) (x6 : Int32) (s0 : Int32) (M : ps_M) : Int32 × ps_M := if s0 = 0 then (fv_L_fails_656 x1 x3 M) else (if x4 = 0 then (fv_L_fails_635 x1 x3 x5 M) else (if (fv_X5_setArrivals (0 : Int32) (x6 - (1 : Int32)) (1 : Int32) M).1 = (-2 : Int32) then (if (fv_X5_setArrivals (0 : Int32) (15 : Int32) (1 : Int32) ((fv_X5_setArrivals (0 : Int32) (x6 - (1 : Int32)) (1 : Int32) M).2)).1 = (-2 : Int32) then (fv_L_fails_448 x1 x3 x5 x6 ((fv_X5_setArrivals (0 : Int32) (14 : Int32) (501 : Int32) ((fv_X5_setArrivals (0 : Int32) (15 : Int32) (1 : Int32) ((fv_X5_setArrivals (0 : Int32) (x6 - (1 : Int32)) (1 : Int32) M).2)).2)).1) ((fv_X5_setArrivals (0 : Int32) (14 : Int32) (501 : Int32) ((fv_X5_setArrivals (0 : Int32) (15 : Int32) (1 : Int32) ((fv_X5_setArrivals (0 : Int32) (x6 - (1 : Int32)) (1 : Int32) M).2)).2)).2)) else (fv_L_fails_656 x1 x3 ((fv_X5_setArrivals (0 : Int32) (15 : Int32) (1 : Int32) ((fv_X5_setArrivals (0 : Int32) (x6 - (1 : Int32)) (1 : Int32) M).2)).2))) else (fv_L_fails_656 x1 x3 ((fv_X5_setArrivals (0 : Int32) (x6 - (1 : Int32)) (1 : Int32) M).2))))
def ok_L_fails_398 (x1 : Int64) (x3 : Int32) (x4 : Int32) (x5 : Int32) (x6 : Int32) (s0 : Int32) (M : ps_M) : Prop := (s0 = 0 → (ok_L_fails_656 x1 x3 M)) ∧ (¬ (s0 = 0) → ((x4 = 0 → (ok_L_fails_635 x1 x3 x5 M)) ∧ (¬ (x4 = 0) → ((ok_X5_setArrivals (0 : Int32) (x6 - (1 : Int32)) (1 : Int32) M) ∧ (((fv_X5_setArrivals (0 : Int32) (x6 - (1 : Int32)) (1 : Int32) M).1 = (-2 : Int32) → ((ok_X5_setArrivals (0 : Int32) (15 : Int32) (1 : Int32) ((fv_X5_setArrivals (0 : Int32) (x6 - (1 : Int32)) (1 : Int32) M).2)) ∧ (((fv_X5_setArrivals (0 : Int32) (15 : Int32) (1 : Int32) ((fv_X5_setArrivals (0 : Int32) (x6 - (1 : Int32)) (1 : Int32) M).2)).1 = (-2 : Int32) → ((ok_X5_setArrivals (0 : Int32) (14 : Int32) (501 : Int32) ((fv_X5_setArrivals (0 : Int32) (15 : Int32) (1 : Int32) ((fv_X5_setArrivals (0 : Int32) (x6 - (1 : Int32)) (1 : Int32) M).2)).2)) ∧ (ok_L_fails_448 x1 x3 x5 x6 ((fv_X5_setArrivals (0 : Int32) (14 : Int32) (501 : Int32) ((fv_X5_setArrivals (0 : Int32) (15 : Int32) (1 : Int32) ((fv_X5_setArrivals (0 : Int32) (x6 - (1 : Int32)) (1 : Int32) M).2)).2)).1) ((fv_X5_setArrivals (0 : Int32) (14 : Int32) (501 : Int32) ((fv_X5_setArrivals (0 : Int32) (15 : Int32) (1 : Int32) ((fv_X5_setArrivals (0 : Int32) (x6 - (1 : Int32)) (1 : Int32) M).2)).2)).2)))) ∧ (¬ ((fv_X5_setArrivals (0 : Int32) (15 : Int32) (1 : Int32) ((fv_X5_setArrivals (0 : Int32) (x6 - (1 : Int32)) (1 : Int32) M).2)).1 = (-2 : Int32)) → (ok_L_fails_656 x1 x3 ((fv_X5_setArrivals (0 : Int32) (15 : Int32) (1 : Int32) ((fv_X5_setArrivals (0 : Int32) (x6 - (1 : Int32)) (1 : Int32) M).2)).2)))))) ∧ (¬ ((fv_X5_setArrivals (0 : Int32) (x6 - (1 : Int32)) (1 : Int32) M).1 = (-2 : Int32)) → (ok_L_fails_656 x1 x3 ((fv_X5_setArrivals (0 : Int32) (x6 - (1 : Int32)) (1 : Int32) M).2))))))))
set_option maxRecDepth 100000 in
set_option maxHeartbeats 4000000 in
theorem bw_L_fails_398 {E : ps_E} {X : ps_X (Int32 × ps_M)} (C : ps_C (ps_Yc E) X cL_fails RL (some .boolean) 6 131 8) (RT : ps_RI (ps_Yc E) X cL_fails .boolean) (x1 : Int64) (x3 : Int32) (x4 : Int32) (x5 : Int32) (x6 : Int32) (s0 : Int32) (M : ps_M) (hk : ok_L_fails_398 x1 x3 x4 x5 x6 s0 M) : ps_G (ps_Yc E) X (fv_L_fails_398 x1 x3 x4 x5 x6 s0 M) 398 [(0, .ref (ps_ad E 0)), (1, .long x1), (3, .int x3), (4, .int x4), (5, .int x5), (6, .int x6)] [.int s0] M := by
  unfold fv_L_fails_398
  unfold ok_L_fails_398 at hk
  refine gw_istore C 400 dL_fails_398 rfl [(0, .ref (ps_ad E 0)), (1, .long x1), (3, .int x3), (4, .int x4), (5, .int x5), (6, .int x6), (7, .int s0)] [1, 2, 3, 4, 5, 6, 0] (by decide) rfl ?_
  refine gw_iload C 402 dL_fails_400 6 rfl rfl ?_
  refine gw_if_eq C 656 405 dL_fails_402 (by decide) rfl (fun c402 => ?_) (fun c402 => ?_)
  · refine gw_sub C [(0, .ref (ps_ad E 0)), (1, .long x1), (3, .int x3)] [0, 1, 2] rfl ?_
    exact bw_L_fails_656 C RT  x1 x3 M (hk.1 c402)
  · refine gw_iload C 407 dL_fails_405 3 rfl rfl ?_
    refine gw_if_eq C 635 410 dL_fails_407 (by decide) rfl (fun c407 => ?_) (fun c407 => ?_)
    · refine gw_sub C [(0, .ref (ps_ad E 0)), (1, .long x1), (3, .int x3), (5, .int x5)] [0, 1, 2, 4] rfl ?_
      exact bw_L_fails_635 C RT  x1 x3 x5 M ((hk.2 c402).1 c407)
    · refine gw_aload_n C 411 dL_fails_410 0 rfl rfl ?_
      refine gw_iconst C 412 dL_fails_411 (v := 0) (by decide) rfl ?_
      refine gw_iload C 414 dL_fails_412 5 rfl rfl ?_
      refine gw_iconst C 415 dL_fails_414 (v := 1) (by decide) rfl ?_
      refine gw_isub C 416 dL_fails_415 rfl ?_
      refine gw_iconst C 417 dL_fails_416 (v := 1) (by decide) rfl ?_
      refine gw_cVi C 420 dL_fails_417 rfl yv_X5_setArrivals lk_L_41 [.int (0 : Int32), .int (x6 - (1 : Int32)), .int (1 : Int32)] [] rfl (ct_X5_setArrivals (E := E) (l := ps_l X) (0 : Int32) (x6 - (1 : Int32)) (1 : Int32) M ((hk.2 c402).2 c407).1) rc_P rfl (Nat.le_of_ble_eq_true rfl) (Nat.le_of_ble_eq_true rfl) (Nat.le_of_ble_eq_true rfl) ?_
      refine gw_bipush C 422 dL_fails_420 (v := (-2)) (by decide) rfl ?_
      refine gw_ic_ne C 656 425 dL_fails_422 (by decide) rfl (fun c422 => ?_) (fun c422 => ?_)
      · refine gw_aload_n C 426 dL_fails_425 0 rfl rfl ?_
        refine gw_iconst C 427 dL_fails_426 (v := 0) (by decide) rfl ?_
        refine gw_bipush C 429 dL_fails_427 (v := 15) (by decide) rfl ?_
        refine gw_iconst C 430 dL_fails_429 (v := 1) (by decide) rfl ?_
        refine gw_cVi C 433 dL_fails_430 rfl yv_X5_setArrivals lk_L_41 [.int (0 : Int32), .int (15 : Int32), .int (1 : Int32)] [] rfl (ct_X5_setArrivals (E := E) (l := ps_l X) (0 : Int32) (15 : Int32) (1 : Int32) ((fv_X5_setArrivals (0 : Int32) (x6 - (1 : Int32)) (1 : Int32) M).2) (((hk.2 c402).2 c407).2.1 c422).1) rc_P rfl (Nat.le_of_ble_eq_true rfl) (Nat.le_of_ble_eq_true rfl) (Nat.le_of_ble_eq_true rfl) ?_
        refine gw_bipush C 435 dL_fails_433 (v := (-2)) (by decide) rfl ?_
        refine gw_ic_ne C 656 438 dL_fails_435 (by decide) rfl (fun c435 => ?_) (fun c435 => ?_)
        · refine gw_aload_n C 439 dL_fails_438 0 rfl rfl ?_
          refine gw_iconst C 440 dL_fails_439 (v := 0) (by decide) rfl ?_
          refine gw_bipush C 442 dL_fails_440 (v := 14) (by decide) rfl ?_
          refine gw_sipush C 445 dL_fails_442 (v := 501) (by decide) rfl ?_
          refine gw_cVi C 448 dL_fails_445 rfl yv_X5_setArrivals lk_L_41 [.int (0 : Int32), .int (14 : Int32), .int (501 : Int32)] [] rfl (ct_X5_setArrivals (E := E) (l := ps_l X) (0 : Int32) (14 : Int32) (501 : Int32) ((fv_X5_setArrivals (0 : Int32) (15 : Int32) (1 : Int32) ((fv_X5_setArrivals (0 : Int32) (x6 - (1 : Int32)) (1 : Int32) M).2)).2) ((((hk.2 c402).2 c407).2.1 c422).2.1 c435).1) rc_P rfl (Nat.le_of_ble_eq_true rfl) (Nat.le_of_ble_eq_true rfl) (Nat.le_of_ble_eq_true rfl) ?_
          refine gw_sub C [(0, .ref (ps_ad E 0)), (1, .long x1), (3, .int x3), (5, .int x5), (6, .int x6)] [0, 1, 2, 4, 5] rfl ?_
          exact bw_L_fails_448 C RT  x1 x3 x5 x6 ((fv_X5_setArrivals (0 : Int32) (14 : Int32) (501 : Int32) ((fv_X5_setArrivals (0 : Int32) (15 : Int32) (1 : Int32) ((fv_X5_setArrivals (0 : Int32) (x6 - (1 : Int32)) (1 : Int32) M).2)).2)).1) ((fv_X5_setArrivals (0 : Int32) (14 : Int32) (501 : Int32) ((fv_X5_setArrivals (0 : Int32) (15 : Int32) (1 : Int32) ((fv_X5_setArrivals (0 : Int32) (x6 - (1 : Int32)) (1 : Int32) M).2)).2)).2) ((((hk.2 c402).2 c407).2.1 c422).2.1 c435).2
        · refine gw_sub C [(0, .ref (ps_ad E 0)), (1, .long x1), (3, .int x3)] [0, 1, 2] rfl ?_
          exact bw_L_fails_656 C RT  x1 x3 ((fv_X5_setArrivals (0 : Int32) (15 : Int32) (1 : Int32) ((fv_X5_setArrivals (0 : Int32) (x6 - (1 : Int32)) (1 : Int32) M).2)).2) ((((hk.2 c402).2 c407).2.1 c422).2.2 c435)
      · refine gw_sub C [(0, .ref (ps_ad E 0)), (1, .long x1), (3, .int x3)] [0, 1, 2] rfl ?_
        exact bw_L_fails_656 C RT  x1 x3 ((fv_X5_setArrivals (0 : Int32) (x6 - (1 : Int32)) (1 : Int32) M).2) (((hk.2 c402).2 c407).2.2 c422)
def fv_L_fails_397 (x1 : Int64) (x3 : Int32) (x4 : Int32) (x5 : Int32) (x6 : Int32) (M : ps_M) : Int32 × ps_M := fv_L_fails_398 x1 x3 x4 x5 x6 (0 : Int32) M
def ok_L_fails_397 (x1 : Int64) (x3 : Int32) (x4 : Int32) (x5 : Int32) (x6 : Int32) (M : ps_M) : Prop := ok_L_fails_398 x1 x3 x4 x5 x6 (0 : Int32) M
set_option maxRecDepth 100000 in
set_option maxHeartbeats 4000000 in
theorem bw_L_fails_397 {E : ps_E} {X : ps_X (Int32 × ps_M)} (C : ps_C (ps_Yc E) X cL_fails RL (some .boolean) 6 131 8) (RT : ps_RI (ps_Yc E) X cL_fails .boolean) (x1 : Int64) (x3 : Int32) (x4 : Int32) (x5 : Int32) (x6 : Int32) (M : ps_M) (hk : ok_L_fails_397 x1 x3 x4 x5 x6 M) : ps_G (ps_Yc E) X (fv_L_fails_397 x1 x3 x4 x5 x6 M) 397 [(0, .ref (ps_ad E 0)), (1, .long x1), (3, .int x3), (4, .int x4), (5, .int x5), (6, .int x6)] [] M := by
  unfold fv_L_fails_397
  unfold ok_L_fails_397 at hk
  refine gw_iconst C 398 dL_fails_397 (v := 0) (by decide) rfl ?_
  exact bw_L_fails_398 C RT  x1 x3 x4 x5 x6 (0 : Int32) M hk
def fv_L_fails_259 (x1 : Int64) (x3 : Int32) (x4 : Int32) (x5 : Int32) (x6 : Int32) (s0 : Int32) (M : ps_M) : Int32 × ps_M := if s0 = 0 then (fv_L_fails_397 x1 x3 x4 x5 x6 M) else (if (fv_X5_station x4 (0 : Int32) M) = (-1 : Int32) then (if (fv_X5_papers (-1 : Int32) (0 : Int32) M) = (-1 : Int32) then (if (fv_X5_clerk x5 (0 : Int32) M) = (-1 : Int32) then (if (fv_X5_arrivals x4 (0 : Int32) M) = (-1 : Int32) then (if (fv_X5_free (-1 : Int32) M) = (-2 : Int32) then (if (fv_X5_free (12 : Int32) M) = (-5 : Int32) then (if (fv_X5_busiest (-1 : Int32) M) = (-2 : Int32) then (if (fv_X5_busiest x4 M) = (-5 : Int32) then (if (fv_X5_queueIn x4 (0 : Int32) M).1 = (-1 : Int32) then (if (fv_X5_lacks x4 ((fv_X5_queueIn x4 (0 : Int32) M).2)).1 = (-1 : Int32) then (if (fv_X5_count (16 : Int32) ((fv_X5_lacks x4 ((fv_X5_queueIn x4 (0 : Int32) M).2)).2)).1 = (-2 : Int32) then (if (fv_X5_count (-1 : Int32) ((fv_X5_count (16 : Int32) ((fv_X5_lacks x4 ((fv_X5_queueIn x4 (0 : Int32) M).2)).2)).2)).1 = (-2 : Int32) then (fv_L_fails_398 x1 x3 x4 x5 x6 (1 : Int32) ((fv_X5_count (-1 : Int32) ((fv_X5_count (16 : Int32) ((fv_X5_lacks x4 ((fv_X5_queueIn x4 (0 : Int32) M).2)).2)).2)).2)) else (fv_L_fails_397 x1 x3 x4 x5 x6 ((fv_X5_count (-1 : Int32) ((fv_X5_count (16 : Int32) ((fv_X5_lacks x4 ((fv_X5_queueIn x4 (0 : Int32) M).2)).2)).2)).2))) else (fv_L_fails_397 x1 x3 x4 x5 x6 ((fv_X5_count (16 : Int32) ((fv_X5_lacks x4 ((fv_X5_queueIn x4 (0 : Int32) M).2)).2)).2))) else (fv_L_fails_397 x1 x3 x4 x5 x6 ((fv_X5_lacks x4 ((fv_X5_queueIn x4 (0 : Int32) M).2)).2))) else (fv_L_fails_397 x1 x3 x4 x5 x6 ((fv_X5_queueIn x4 (0 : Int32) M).2))) else (fv_L_fails_397 x1 x3 x4 x5 x6 M)) else (fv_L_fails_397 x1 x3 x4 x5 x6 M)) else (fv_L_fails_397 x1 x3 x4 x5 x6 M)) else (fv_L_fails_397 x1 x3 x4 x5 x6 M)) else (fv_L_fails_397 x1 x3 x4 x5 x6 M)) else (fv_L_fails_397 x1 x3 x4 x5 x6 M)) else (fv_L_fails_397 x1 x3 x4 x5 x6 M)) else (fv_L_fails_397 x1 x3 x4 x5 x6 M))
def ok_L_fails_259 (x1 : Int64) (x3 : Int32) (x4 : Int32) (x5 : Int32) (x6 : Int32) (s0 : Int32) (M : ps_M) : Prop := (s0 = 0 → (ok_L_fails_397 x1 x3 x4 x5 x6 M)) ∧ (¬ (s0 = 0) → ((ok_X5_station x4 (0 : Int32) M) ∧ (((fv_X5_station x4 (0 : Int32) M) = (-1 : Int32) → ((ok_X5_papers (-1 : Int32) (0 : Int32) M) ∧ (((fv_X5_papers (-1 : Int32) (0 : Int32) M) = (-1 : Int32) → ((ok_X5_clerk x5 (0 : Int32) M) ∧ (((fv_X5_clerk x5 (0 : Int32) M) = (-1 : Int32) → ((ok_X5_arrivals x4 (0 : Int32) M) ∧ (((fv_X5_arrivals x4 (0 : Int32) M) = (-1 : Int32) → ((ok_X5_free (-1 : Int32) M) ∧ (((fv_X5_free (-1 : Int32) M) = (-2 : Int32) → ((ok_X5_free (12 : Int32) M) ∧ (((fv_X5_free (12 : Int32) M) = (-5 : Int32) → ((ok_X5_busiest (-1 : Int32) M) ∧ (((fv_X5_busiest (-1 : Int32) M) = (-2 : Int32) → ((ok_X5_busiest x4 M) ∧ (((fv_X5_busiest x4 M) = (-5 : Int32) → ((ok_X5_queueIn x4 (0 : Int32) M) ∧ (((fv_X5_queueIn x4 (0 : Int32) M).1 = (-1 : Int32) → ((ok_X5_lacks x4 ((fv_X5_queueIn x4 (0 : Int32) M).2)) ∧ (((fv_X5_lacks x4 ((fv_X5_queueIn x4 (0 : Int32) M).2)).1 = (-1 : Int32) → ((ok_X5_count (16 : Int32) ((fv_X5_lacks x4 ((fv_X5_queueIn x4 (0 : Int32) M).2)).2)) ∧ (((fv_X5_count (16 : Int32) ((fv_X5_lacks x4 ((fv_X5_queueIn x4 (0 : Int32) M).2)).2)).1 = (-2 : Int32) → ((ok_X5_count (-1 : Int32) ((fv_X5_count (16 : Int32) ((fv_X5_lacks x4 ((fv_X5_queueIn x4 (0 : Int32) M).2)).2)).2)) ∧ (((fv_X5_count (-1 : Int32) ((fv_X5_count (16 : Int32) ((fv_X5_lacks x4 ((fv_X5_queueIn x4 (0 : Int32) M).2)).2)).2)).1 = (-2 : Int32) → (ok_L_fails_398 x1 x3 x4 x5 x6 (1 : Int32) ((fv_X5_count (-1 : Int32) ((fv_X5_count (16 : Int32) ((fv_X5_lacks x4 ((fv_X5_queueIn x4 (0 : Int32) M).2)).2)).2)).2))) ∧ (¬ ((fv_X5_count (-1 : Int32) ((fv_X5_count (16 : Int32) ((fv_X5_lacks x4 ((fv_X5_queueIn x4 (0 : Int32) M).2)).2)).2)).1 = (-2 : Int32)) → (ok_L_fails_397 x1 x3 x4 x5 x6 ((fv_X5_count (-1 : Int32) ((fv_X5_count (16 : Int32) ((fv_X5_lacks x4 ((fv_X5_queueIn x4 (0 : Int32) M).2)).2)).2)).2)))))) ∧ (¬ ((fv_X5_count (16 : Int32) ((fv_X5_lacks x4 ((fv_X5_queueIn x4 (0 : Int32) M).2)).2)).1 = (-2 : Int32)) → (ok_L_fails_397 x1 x3 x4 x5 x6 ((fv_X5_count (16 : Int32) ((fv_X5_lacks x4 ((fv_X5_queueIn x4 (0 : Int32) M).2)).2)).2)))))) ∧ (¬ ((fv_X5_lacks x4 ((fv_X5_queueIn x4 (0 : Int32) M).2)).1 = (-1 : Int32)) → (ok_L_fails_397 x1 x3 x4 x5 x6 ((fv_X5_lacks x4 ((fv_X5_queueIn x4 (0 : Int32) M).2)).2)))))) ∧ (¬ ((fv_X5_queueIn x4 (0 : Int32) M).1 = (-1 : Int32)) → (ok_L_fails_397 x1 x3 x4 x5 x6 ((fv_X5_queueIn x4 (0 : Int32) M).2)))))) ∧ (¬ ((fv_X5_busiest x4 M) = (-5 : Int32)) → (ok_L_fails_397 x1 x3 x4 x5 x6 M))))) ∧ (¬ ((fv_X5_busiest (-1 : Int32) M) = (-2 : Int32)) → (ok_L_fails_397 x1 x3 x4 x5 x6 M))))) ∧ (¬ ((fv_X5_free (12 : Int32) M) = (-5 : Int32)) → (ok_L_fails_397 x1 x3 x4 x5 x6 M))))) ∧ (¬ ((fv_X5_free (-1 : Int32) M) = (-2 : Int32)) → (ok_L_fails_397 x1 x3 x4 x5 x6 M))))) ∧ (¬ ((fv_X5_arrivals x4 (0 : Int32) M) = (-1 : Int32)) → (ok_L_fails_397 x1 x3 x4 x5 x6 M))))) ∧ (¬ ((fv_X5_clerk x5 (0 : Int32) M) = (-1 : Int32)) → (ok_L_fails_397 x1 x3 x4 x5 x6 M))))) ∧ (¬ ((fv_X5_papers (-1 : Int32) (0 : Int32) M) = (-1 : Int32)) → (ok_L_fails_397 x1 x3 x4 x5 x6 M))))) ∧ (¬ ((fv_X5_station x4 (0 : Int32) M) = (-1 : Int32)) → (ok_L_fails_397 x1 x3 x4 x5 x6 M)))))
set_option maxRecDepth 100000 in
set_option maxHeartbeats 4000000 in
theorem bw_L_fails_259 {E : ps_E} {X : ps_X (Int32 × ps_M)} (C : ps_C (ps_Yc E) X cL_fails RL (some .boolean) 6 131 8) (RT : ps_RI (ps_Yc E) X cL_fails .boolean) (x1 : Int64) (x3 : Int32) (x4 : Int32) (x5 : Int32) (x6 : Int32) (s0 : Int32) (M : ps_M) (hk : ok_L_fails_259 x1 x3 x4 x5 x6 s0 M) : ps_G (ps_Yc E) X (fv_L_fails_259 x1 x3 x4 x5 x6 s0 M) 259 [(0, .ref (ps_ad E 0)), (1, .long x1), (3, .int x3), (4, .int x4), (5, .int x5), (6, .int x6)] [.int s0] M := by
  unfold fv_L_fails_259
  unfold ok_L_fails_259 at hk
  refine gw_istore C 261 dL_fails_259 rfl [(0, .ref (ps_ad E 0)), (1, .long x1), (3, .int x3), (4, .int x4), (5, .int x5), (6, .int x6), (7, .int s0)] [1, 2, 3, 4, 5, 6, 0] (by decide) rfl ?_
  refine gw_iload C 263 dL_fails_261 6 rfl rfl ?_
  refine gw_if_eq C 397 266 dL_fails_263 (by decide) rfl (fun c263 => ?_) (fun c263 => ?_)
  · refine gw_sub C [(0, .ref (ps_ad E 0)), (1, .long x1), (3, .int x3), (4, .int x4), (5, .int x5), (6, .int x6)] [0, 1, 2, 3, 4, 5] rfl ?_
    exact bw_L_fails_397 C RT  x1 x3 x4 x5 x6 M (hk.1 c263)
  · refine gw_aload_n C 267 dL_fails_266 0 rfl rfl ?_
    refine gw_iload C 269 dL_fails_267 3 rfl rfl ?_
    refine gw_iconst C 270 dL_fails_269 (v := 0) (by decide) rfl ?_
    refine gw_cVp C 273 dL_fails_270 rfl yv_X5_station lk_L_19 [.int x4, .int (0 : Int32)] [] rfl (ct_X5_station (E := E) (l := ps_l X) x4 (0 : Int32) M (hk.2 c263).1) rc_P rfl (Nat.le_of_ble_eq_true rfl) (Nat.le_of_ble_eq_true rfl) (Nat.le_of_ble_eq_true rfl) ?_
    refine gw_iconst C 274 dL_fails_273 (v := (-1)) (by decide) rfl ?_
    refine gw_ic_ne C 397 277 dL_fails_274 (by decide) rfl (fun c274 => ?_) (fun c274 => ?_)
    · refine gw_aload_n C 278 dL_fails_277 0 rfl rfl ?_
      refine gw_iconst C 279 dL_fails_278 (v := (-1)) (by decide) rfl ?_
      refine gw_iconst C 280 dL_fails_279 (v := 0) (by decide) rfl ?_
      refine gw_cVp C 283 dL_fails_280 rfl yv_X5_papers lk_L_23 [.int (-1 : Int32), .int (0 : Int32)] [] rfl (ct_X5_papers (E := E) (l := ps_l X) (-1 : Int32) (0 : Int32) M ((hk.2 c263).2.1 c274).1) rc_P rfl (Nat.le_of_ble_eq_true rfl) (Nat.le_of_ble_eq_true rfl) (Nat.le_of_ble_eq_true rfl) ?_
      refine gw_iconst C 284 dL_fails_283 (v := (-1)) (by decide) rfl ?_
      refine gw_ic_ne C 397 287 dL_fails_284 (by decide) rfl (fun c284 => ?_) (fun c284 => ?_)
      · refine gw_aload_n C 288 dL_fails_287 0 rfl rfl ?_
        refine gw_iload C 290 dL_fails_288 4 rfl rfl ?_
        refine gw_iconst C 291 dL_fails_290 (v := 0) (by decide) rfl ?_
        refine gw_cVp C 294 dL_fails_291 rfl yv_X5_clerk lk_L_29 [.int x5, .int (0 : Int32)] [] rfl (ct_X5_clerk (E := E) (l := ps_l X) x5 (0 : Int32) M (((hk.2 c263).2.1 c274).2.1 c284).1) rc_P rfl (Nat.le_of_ble_eq_true rfl) (Nat.le_of_ble_eq_true rfl) (Nat.le_of_ble_eq_true rfl) ?_
        refine gw_iconst C 295 dL_fails_294 (v := (-1)) (by decide) rfl ?_
        refine gw_ic_ne C 397 298 dL_fails_295 (by decide) rfl (fun c295 => ?_) (fun c295 => ?_)
        · refine gw_aload_n C 299 dL_fails_298 0 rfl rfl ?_
          refine gw_iload C 301 dL_fails_299 3 rfl rfl ?_
          refine gw_iconst C 302 dL_fails_301 (v := 0) (by decide) rfl ?_
          refine gw_cVp C 305 dL_fails_302 rfl yv_X5_arrivals lk_L_26 [.int x4, .int (0 : Int32)] [] rfl (ct_X5_arrivals (E := E) (l := ps_l X) x4 (0 : Int32) M ((((hk.2 c263).2.1 c274).2.1 c284).2.1 c295).1) rc_P rfl (Nat.le_of_ble_eq_true rfl) (Nat.le_of_ble_eq_true rfl) (Nat.le_of_ble_eq_true rfl) ?_
          refine gw_iconst C 306 dL_fails_305 (v := (-1)) (by decide) rfl ?_
          refine gw_ic_ne C 397 309 dL_fails_306 (by decide) rfl (fun c306 => ?_) (fun c306 => ?_)
          · refine gw_aload_n C 310 dL_fails_309 0 rfl rfl ?_
            refine gw_iconst C 311 dL_fails_310 (v := (-1)) (by decide) rfl ?_
            refine gw_cVp C 314 dL_fails_311 rfl yv_X5_free lk_L_75 [.int (-1 : Int32)] [] rfl (ct_X5_free (E := E) (l := ps_l X) (-1 : Int32) M (((((hk.2 c263).2.1 c274).2.1 c284).2.1 c295).2.1 c306).1) rc_P rfl (Nat.le_of_ble_eq_true rfl) (Nat.le_of_ble_eq_true rfl) (Nat.le_of_ble_eq_true rfl) ?_
            refine gw_bipush C 316 dL_fails_314 (v := (-2)) (by decide) rfl ?_
            refine gw_ic_ne C 397 319 dL_fails_316 (by decide) rfl (fun c316 => ?_) (fun c316 => ?_)
            · refine gw_aload_n C 320 dL_fails_319 0 rfl rfl ?_
              refine gw_bipush C 322 dL_fails_320 (v := 12) (by decide) rfl ?_
              refine gw_cVp C 325 dL_fails_322 rfl yv_X5_free lk_L_75 [.int (12 : Int32)] [] rfl (ct_X5_free (E := E) (l := ps_l X) (12 : Int32) M ((((((hk.2 c263).2.1 c274).2.1 c284).2.1 c295).2.1 c306).2.1 c316).1) rc_P rfl (Nat.le_of_ble_eq_true rfl) (Nat.le_of_ble_eq_true rfl) (Nat.le_of_ble_eq_true rfl) ?_
              refine gw_bipush C 327 dL_fails_325 (v := (-5)) (by decide) rfl ?_
              refine gw_ic_ne C 397 330 dL_fails_327 (by decide) rfl (fun c327 => ?_) (fun c327 => ?_)
              · refine gw_aload_n C 331 dL_fails_330 0 rfl rfl ?_
                refine gw_iconst C 332 dL_fails_331 (v := (-1)) (by decide) rfl ?_
                refine gw_cVp C 335 dL_fails_332 rfl yv_X5_busiest lk_L_78 [.int (-1 : Int32)] [] rfl (ct_X5_busiest (E := E) (l := ps_l X) (-1 : Int32) M (((((((hk.2 c263).2.1 c274).2.1 c284).2.1 c295).2.1 c306).2.1 c316).2.1 c327).1) rc_P rfl (Nat.le_of_ble_eq_true rfl) (Nat.le_of_ble_eq_true rfl) (Nat.le_of_ble_eq_true rfl) ?_
                refine gw_bipush C 337 dL_fails_335 (v := (-2)) (by decide) rfl ?_
                refine gw_ic_ne C 397 340 dL_fails_337 (by decide) rfl (fun c337 => ?_) (fun c337 => ?_)
                · refine gw_aload_n C 341 dL_fails_340 0 rfl rfl ?_
                  refine gw_iload C 343 dL_fails_341 3 rfl rfl ?_
                  refine gw_cVp C 346 dL_fails_343 rfl yv_X5_busiest lk_L_78 [.int x4] [] rfl (ct_X5_busiest (E := E) (l := ps_l X) x4 M ((((((((hk.2 c263).2.1 c274).2.1 c284).2.1 c295).2.1 c306).2.1 c316).2.1 c327).2.1 c337).1) rc_P rfl (Nat.le_of_ble_eq_true rfl) (Nat.le_of_ble_eq_true rfl) (Nat.le_of_ble_eq_true rfl) ?_
                  refine gw_bipush C 348 dL_fails_346 (v := (-5)) (by decide) rfl ?_
                  refine gw_ic_ne C 397 351 dL_fails_348 (by decide) rfl (fun c348 => ?_) (fun c348 => ?_)
                  · refine gw_aload_n C 352 dL_fails_351 0 rfl rfl ?_
                    refine gw_iload C 354 dL_fails_352 3 rfl rfl ?_
                    refine gw_iconst C 355 dL_fails_354 (v := 0) (by decide) rfl ?_
                    refine gw_cVi C 358 dL_fails_355 rfl yv_X5_queueIn lk_L_81 [.int x4, .int (0 : Int32)] [] rfl (ct_X5_queueIn (E := E) (l := ps_l X) x4 (0 : Int32) M (((((((((hk.2 c263).2.1 c274).2.1 c284).2.1 c295).2.1 c306).2.1 c316).2.1 c327).2.1 c337).2.1 c348).1) rc_P rfl (Nat.le_of_ble_eq_true rfl) (Nat.le_of_ble_eq_true rfl) (Nat.le_of_ble_eq_true rfl) ?_
                    refine gw_iconst C 359 dL_fails_358 (v := (-1)) (by decide) rfl ?_
                    refine gw_ic_ne C 397 362 dL_fails_359 (by decide) rfl (fun c359 => ?_) (fun c359 => ?_)
                    · refine gw_aload_n C 363 dL_fails_362 0 rfl rfl ?_
                      refine gw_iload C 365 dL_fails_363 3 rfl rfl ?_
                      refine gw_cVi C 368 dL_fails_365 rfl yv_X5_lacks lk_L_84 [.int x4] [] rfl (ct_X5_lacks (E := E) (l := ps_l X) x4 ((fv_X5_queueIn x4 (0 : Int32) M).2) ((((((((((hk.2 c263).2.1 c274).2.1 c284).2.1 c295).2.1 c306).2.1 c316).2.1 c327).2.1 c337).2.1 c348).2.1 c359).1) rc_P rfl (Nat.le_of_ble_eq_true rfl) (Nat.le_of_ble_eq_true rfl) (Nat.le_of_ble_eq_true rfl) ?_
                      refine gw_iconst C 369 dL_fails_368 (v := (-1)) (by decide) rfl ?_
                      refine gw_ic_ne C 397 372 dL_fails_369 (by decide) rfl (fun c369 => ?_) (fun c369 => ?_)
                      · refine gw_aload_n C 373 dL_fails_372 0 rfl rfl ?_
                        refine gw_bipush C 375 dL_fails_373 (v := 16) (by decide) rfl ?_
                        refine gw_cVi C 378 dL_fails_375 rfl yv_X5_count lk_L_13 [.int (16 : Int32)] [] rfl (ct_X5_count (E := E) (l := ps_l X) (16 : Int32) ((fv_X5_lacks x4 ((fv_X5_queueIn x4 (0 : Int32) M).2)).2) (((((((((((hk.2 c263).2.1 c274).2.1 c284).2.1 c295).2.1 c306).2.1 c316).2.1 c327).2.1 c337).2.1 c348).2.1 c359).2.1 c369).1) rc_P rfl (Nat.le_of_ble_eq_true rfl) (Nat.le_of_ble_eq_true rfl) (Nat.le_of_ble_eq_true rfl) ?_
                        refine gw_bipush C 380 dL_fails_378 (v := (-2)) (by decide) rfl ?_
                        refine gw_ic_ne C 397 383 dL_fails_380 (by decide) rfl (fun c380 => ?_) (fun c380 => ?_)
                        · refine gw_aload_n C 384 dL_fails_383 0 rfl rfl ?_
                          refine gw_iconst C 385 dL_fails_384 (v := (-1)) (by decide) rfl ?_
                          refine gw_cVi C 388 dL_fails_385 rfl yv_X5_count lk_L_13 [.int (-1 : Int32)] [] rfl (ct_X5_count (E := E) (l := ps_l X) (-1 : Int32) ((fv_X5_count (16 : Int32) ((fv_X5_lacks x4 ((fv_X5_queueIn x4 (0 : Int32) M).2)).2)).2) ((((((((((((hk.2 c263).2.1 c274).2.1 c284).2.1 c295).2.1 c306).2.1 c316).2.1 c327).2.1 c337).2.1 c348).2.1 c359).2.1 c369).2.1 c380).1) rc_P rfl (Nat.le_of_ble_eq_true rfl) (Nat.le_of_ble_eq_true rfl) (Nat.le_of_ble_eq_true rfl) ?_
                          refine gw_bipush C 390 dL_fails_388 (v := (-2)) (by decide) rfl ?_
                          refine gw_ic_ne C 397 393 dL_fails_390 (by decide) rfl (fun c390 => ?_) (fun c390 => ?_)
                          · refine gw_iconst C 394 dL_fails_393 (v := 1) (by decide) rfl ?_
                            refine gw_goto C 398 dL_fails_394 (by decide) ?_
                            refine gw_sub C [(0, .ref (ps_ad E 0)), (1, .long x1), (3, .int x3), (4, .int x4), (5, .int x5), (6, .int x6)] [0, 1, 2, 3, 4, 5] rfl ?_
                            exact bw_L_fails_398 C RT  x1 x3 x4 x5 x6 (1 : Int32) ((fv_X5_count (-1 : Int32) ((fv_X5_count (16 : Int32) ((fv_X5_lacks x4 ((fv_X5_queueIn x4 (0 : Int32) M).2)).2)).2)).2) (((((((((((((hk.2 c263).2.1 c274).2.1 c284).2.1 c295).2.1 c306).2.1 c316).2.1 c327).2.1 c337).2.1 c348).2.1 c359).2.1 c369).2.1 c380).2.1 c390)
                          · refine gw_sub C [(0, .ref (ps_ad E 0)), (1, .long x1), (3, .int x3), (4, .int x4), (5, .int x5), (6, .int x6)] [0, 1, 2, 3, 4, 5] rfl ?_
                            exact bw_L_fails_397 C RT  x1 x3 x4 x5 x6 ((fv_X5_count (-1 : Int32) ((fv_X5_count (16 : Int32) ((fv_X5_lacks x4 ((fv_X5_queueIn x4 (0 : Int32) M).2)).2)).2)).2) (((((((((((((hk.2 c263).2.1 c274).2.1 c284).2.1 c295).2.1 c306).2.1 c316).2.1 c327).2.1 c337).2.1 c348).2.1 c359).2.1 c369).2.1 c380).2.2 c390)
                        · refine gw_sub C [(0, .ref (ps_ad E 0)), (1, .long x1), (3, .int x3), (4, .int x4), (5, .int x5), (6, .int x6)] [0, 1, 2, 3, 4, 5] rfl ?_
                          exact bw_L_fails_397 C RT  x1 x3 x4 x5 x6 ((fv_X5_count (16 : Int32) ((fv_X5_lacks x4 ((fv_X5_queueIn x4 (0 : Int32) M).2)).2)).2) ((((((((((((hk.2 c263).2.1 c274).2.1 c284).2.1 c295).2.1 c306).2.1 c316).2.1 c327).2.1 c337).2.1 c348).2.1 c359).2.1 c369).2.2 c380)
                      · refine gw_sub C [(0, .ref (ps_ad E 0)), (1, .long x1), (3, .int x3), (4, .int x4), (5, .int x5), (6, .int x6)] [0, 1, 2, 3, 4, 5] rfl ?_
                        exact bw_L_fails_397 C RT  x1 x3 x4 x5 x6 ((fv_X5_lacks x4 ((fv_X5_queueIn x4 (0 : Int32) M).2)).2) (((((((((((hk.2 c263).2.1 c274).2.1 c284).2.1 c295).2.1 c306).2.1 c316).2.1 c327).2.1 c337).2.1 c348).2.1 c359).2.2 c369)
                    · refine gw_sub C [(0, .ref (ps_ad E 0)), (1, .long x1), (3, .int x3), (4, .int x4), (5, .int x5), (6, .int x6)] [0, 1, 2, 3, 4, 5] rfl ?_
                      exact bw_L_fails_397 C RT  x1 x3 x4 x5 x6 ((fv_X5_queueIn x4 (0 : Int32) M).2) ((((((((((hk.2 c263).2.1 c274).2.1 c284).2.1 c295).2.1 c306).2.1 c316).2.1 c327).2.1 c337).2.1 c348).2.2 c359)
                  · refine gw_sub C [(0, .ref (ps_ad E 0)), (1, .long x1), (3, .int x3), (4, .int x4), (5, .int x5), (6, .int x6)] [0, 1, 2, 3, 4, 5] rfl ?_
                    exact bw_L_fails_397 C RT  x1 x3 x4 x5 x6 M (((((((((hk.2 c263).2.1 c274).2.1 c284).2.1 c295).2.1 c306).2.1 c316).2.1 c327).2.1 c337).2.2 c348)
                · refine gw_sub C [(0, .ref (ps_ad E 0)), (1, .long x1), (3, .int x3), (4, .int x4), (5, .int x5), (6, .int x6)] [0, 1, 2, 3, 4, 5] rfl ?_
                  exact bw_L_fails_397 C RT  x1 x3 x4 x5 x6 M ((((((((hk.2 c263).2.1 c274).2.1 c284).2.1 c295).2.1 c306).2.1 c316).2.1 c327).2.2 c337)
              · refine gw_sub C [(0, .ref (ps_ad E 0)), (1, .long x1), (3, .int x3), (4, .int x4), (5, .int x5), (6, .int x6)] [0, 1, 2, 3, 4, 5] rfl ?_
                exact bw_L_fails_397 C RT  x1 x3 x4 x5 x6 M (((((((hk.2 c263).2.1 c274).2.1 c284).2.1 c295).2.1 c306).2.1 c316).2.2 c327)
            · refine gw_sub C [(0, .ref (ps_ad E 0)), (1, .long x1), (3, .int x3), (4, .int x4), (5, .int x5), (6, .int x6)] [0, 1, 2, 3, 4, 5] rfl ?_
              exact bw_L_fails_397 C RT  x1 x3 x4 x5 x6 M ((((((hk.2 c263).2.1 c274).2.1 c284).2.1 c295).2.1 c306).2.2 c316)
          · refine gw_sub C [(0, .ref (ps_ad E 0)), (1, .long x1), (3, .int x3), (4, .int x4), (5, .int x5), (6, .int x6)] [0, 1, 2, 3, 4, 5] rfl ?_
            exact bw_L_fails_397 C RT  x1 x3 x4 x5 x6 M (((((hk.2 c263).2.1 c274).2.1 c284).2.1 c295).2.2 c306)
        · refine gw_sub C [(0, .ref (ps_ad E 0)), (1, .long x1), (3, .int x3), (4, .int x4), (5, .int x5), (6, .int x6)] [0, 1, 2, 3, 4, 5] rfl ?_
          exact bw_L_fails_397 C RT  x1 x3 x4 x5 x6 M ((((hk.2 c263).2.1 c274).2.1 c284).2.2 c295)
      · refine gw_sub C [(0, .ref (ps_ad E 0)), (1, .long x1), (3, .int x3), (4, .int x4), (5, .int x5), (6, .int x6)] [0, 1, 2, 3, 4, 5] rfl ?_
        exact bw_L_fails_397 C RT  x1 x3 x4 x5 x6 M (((hk.2 c263).2.1 c274).2.2 c284)
    · refine gw_sub C [(0, .ref (ps_ad E 0)), (1, .long x1), (3, .int x3), (4, .int x4), (5, .int x5), (6, .int x6)] [0, 1, 2, 3, 4, 5] rfl ?_
      exact bw_L_fails_397 C RT  x1 x3 x4 x5 x6 M ((hk.2 c263).2.2 c274)
def fv_L_fails_254 (x1 : Int64) (x3 : Int32) (x4 : Int32) (x5 : Int32) (x6 : Int32) (M : ps_M) : Int32 × ps_M := fv_L_fails_259 x1 x3 x4 x5 x6 (1 : Int32) M
def ok_L_fails_254 (x1 : Int64) (x3 : Int32) (x4 : Int32) (x5 : Int32) (x6 : Int32) (M : ps_M) : Prop := ok_L_fails_259 x1 x3 x4 x5 x6 (1 : Int32) M
set_option maxRecDepth 100000 in
set_option maxHeartbeats 4000000 in
theorem bw_L_fails_254 {E : ps_E} {X : ps_X (Int32 × ps_M)} (C : ps_C (ps_Yc E) X cL_fails RL (some .boolean) 6 131 8) (RT : ps_RI (ps_Yc E) X cL_fails .boolean) (x1 : Int64) (x3 : Int32) (x4 : Int32) (x5 : Int32) (x6 : Int32) (M : ps_M) (hk : ok_L_fails_254 x1 x3 x4 x5 x6 M) : ps_G (ps_Yc E) X (fv_L_fails_254 x1 x3 x4 x5 x6 M) 254 [(0, .ref (ps_ad E 0)), (1, .long x1), (3, .int x3), (4, .int x4), (5, .int x5), (6, .int x6)] [] M := by
  unfold fv_L_fails_254
  unfold ok_L_fails_254 at hk
  refine gw_iconst C 255 dL_fails_254 (v := 1) (by decide) rfl ?_
  refine gw_goto C 259 dL_fails_255 (by decide) ?_
  exact bw_L_fails_259 C RT  x1 x3 x4 x5 x6 (1 : Int32) M hk
def fv_L_fails_258 (x1 : Int64) (x3 : Int32) (x4 : Int32) (x5 : Int32) (x6 : Int32) (M : ps_M) : Int32 × ps_M := fv_L_fails_259 x1 x3 x4 x5 x6 (0 : Int32) M
def ok_L_fails_258 (x1 : Int64) (x3 : Int32) (x4 : Int32) (x5 : Int32) (x6 : Int32) (M : ps_M) : Prop := ok_L_fails_259 x1 x3 x4 x5 x6 (0 : Int32) M
set_option maxRecDepth 100000 in
set_option maxHeartbeats 4000000 in
theorem bw_L_fails_258 {E : ps_E} {X : ps_X (Int32 × ps_M)} (C : ps_C (ps_Yc E) X cL_fails RL (some .boolean) 6 131 8) (RT : ps_RI (ps_Yc E) X cL_fails .boolean) (x1 : Int64) (x3 : Int32) (x4 : Int32) (x5 : Int32) (x6 : Int32) (M : ps_M) (hk : ok_L_fails_258 x1 x3 x4 x5 x6 M) : ps_G (ps_Yc E) X (fv_L_fails_258 x1 x3 x4 x5 x6 M) 258 [(0, .ref (ps_ad E 0)), (1, .long x1), (3, .int x3), (4, .int x4), (5, .int x5), (6, .int x6)] [] M := by
  unfold fv_L_fails_258
  unfold ok_L_fails_258 at hk
  refine gw_iconst C 259 dL_fails_258 (v := 0) (by decide) rfl ?_
  exact bw_L_fails_259 C RT  x1 x3 x4 x5 x6 (0 : Int32) M hk
def fv_L_fails_231 (x1 : Int64) (x3 : Int32) (x4 : Int32) (x5 : Int32) (x6 : Int32) (s0 : Int32) (M : ps_M) : Int32 × ps_M := if s0 = (-1 : Int32) then (if x6 = 0 then (fv_L_fails_254 x1 x3 x4 x5 x6 M) else (if (fv_X5_pass ((19 : Int32) - x6) M).1 = (-4 : Int32) then (fv_L_fails_254 x1 x3 x4 x5 x6 ((fv_X5_pass ((19 : Int32) - x6) M).2)) else (fv_L_fails_258 x1 x3 x4 x5 x6 ((fv_X5_pass ((19 : Int32) - x6) M).2)))) else (fv_L_fails_258 x1 x3 x4 x5 x6 M)
def ok_L_fails_231 (x1 : Int64) (x3 : Int32) (x4 : Int32) (x5 : Int32) (x6 : Int32) (s0 : Int32) (M : ps_M) : Prop := (s0 = (-1 : Int32) → ((x6 = 0 → (ok_L_fails_254 x1 x3 x4 x5 x6 M)) ∧ (¬ (x6 = 0) → ((ok_X5_pass ((19 : Int32) - x6) M) ∧ (((fv_X5_pass ((19 : Int32) - x6) M).1 = (-4 : Int32) → (ok_L_fails_254 x1 x3 x4 x5 x6 ((fv_X5_pass ((19 : Int32) - x6) M).2))) ∧ (¬ ((fv_X5_pass ((19 : Int32) - x6) M).1 = (-4 : Int32)) → (ok_L_fails_258 x1 x3 x4 x5 x6 ((fv_X5_pass ((19 : Int32) - x6) M).2)))))))) ∧ (¬ (s0 = (-1 : Int32)) → (ok_L_fails_258 x1 x3 x4 x5 x6 M))
set_option maxRecDepth 100000 in
set_option maxHeartbeats 4000000 in
theorem bw_L_fails_231 {E : ps_E} {X : ps_X (Int32 × ps_M)} (C : ps_C (ps_Yc E) X cL_fails RL (some .boolean) 6 131 8) (RT : ps_RI (ps_Yc E) X cL_fails .boolean) (x1 : Int64) (x3 : Int32) (x4 : Int32) (x5 : Int32) (x6 : Int32) (s0 : Int32) (M : ps_M) (hk : ok_L_fails_231 x1 x3 x4 x5 x6 s0 M) : ps_G (ps_Yc E) X (fv_L_fails_231 x1 x3 x4 x5 x6 s0 M) 231 [(0, .ref (ps_ad E 0)), (1, .long x1), (3, .int x3), (4, .int x4), (5, .int x5), (6, .int x6)] [.int s0] M := by
  unfold fv_L_fails_231
  unfold ok_L_fails_231 at hk
  refine gw_iconst C 232 dL_fails_231 (v := (-1)) (by decide) rfl ?_
  refine gw_ic_ne C 258 235 dL_fails_232 (by decide) rfl (fun c232 => ?_) (fun c232 => ?_)
  · refine gw_iload C 237 dL_fails_235 5 rfl rfl ?_
    refine gw_if_eq C 254 240 dL_fails_237 (by decide) rfl (fun c237 => ?_) (fun c237 => ?_)
    · exact bw_L_fails_254 C RT  x1 x3 x4 x5 x6 M ((hk.1 c232).1 c237)
    · refine gw_aload_n C 241 dL_fails_240 0 rfl rfl ?_
      refine gw_bipush C 243 dL_fails_241 (v := 19) (by decide) rfl ?_
      refine gw_iload C 245 dL_fails_243 5 rfl rfl ?_
      refine gw_isub C 246 dL_fails_245 rfl ?_
      refine gw_cVi C 249 dL_fails_246 rfl yv_X5_pass lk_L_51 [.int ((19 : Int32) - x6)] [] rfl (ct_X5_pass (E := E) (l := ps_l X) ((19 : Int32) - x6) M ((hk.1 c232).2 c237).1) rc_P rfl (Nat.le_of_ble_eq_true rfl) (Nat.le_of_ble_eq_true rfl) (Nat.le_of_ble_eq_true rfl) ?_
      refine gw_bipush C 251 dL_fails_249 (v := (-4)) (by decide) rfl ?_
      refine gw_ic_ne C 258 254 dL_fails_251 (by decide) rfl (fun c251 => ?_) (fun c251 => ?_)
      · exact bw_L_fails_254 C RT  x1 x3 x4 x5 x6 ((fv_X5_pass ((19 : Int32) - x6) M).2) (((hk.1 c232).2 c237).2.1 c251)
      · exact bw_L_fails_258 C RT  x1 x3 x4 x5 x6 ((fv_X5_pass ((19 : Int32) - x6) M).2) (((hk.1 c232).2 c237).2.2 c251)
  · exact bw_L_fails_258 C RT  x1 x3 x4 x5 x6 M (hk.2 c232)
def fv_L_fails_187 (x1 : Int64) (x3 : Int32) (x4 : Int32) (x5 : Int32) (x6 : Int32) (s0 : Int32) (M : ps_M) : Int32 × ps_M := if s0 = (-1 : Int32) then (if (fv_X5_carryOff (-1 : Int32) (1 : Int32) M).1 = (-1 : Int32) then (if (fv_X5_find x4 (1 : Int32) ((fv_X5_carryOff (-1 : Int32) (1 : Int32) M).2)).1 = (-1 : Int32) then (if (fv_X5_countBox x4 (1 : Int32) ((fv_X5_find x4 (1 : Int32) ((fv_X5_carryOff (-1 : Int32) (1 : Int32) M).2)).2)).1 = (-1 : Int32) then (fv_L_fails_231 x1 x3 x4 x5 x6 ((fv_X5_readArrivals x4 (14 : Int32) ((fv_X5_countBox x4 (1 : Int32) ((fv_X5_find x4 (1 : Int32) ((fv_X5_carryOff (-1 : Int32) (1 : Int32) M).2)).2)).2)).1) ((fv_X5_readArrivals x4 (14 : Int32) ((fv_X5_countBox x4 (1 : Int32) ((fv_X5_find x4 (1 : Int32) ((fv_X5_carryOff (-1 : Int32) (1 : Int32) M).2)).2)).2)).2)) else (fv_L_fails_258 x1 x3 x4 x5 x6 ((fv_X5_countBox x4 (1 : Int32) ((fv_X5_find x4 (1 : Int32) ((fv_X5_carryOff (-1 : Int32) (1 : Int32) M).2)).2)).2))) else (fv_L_fails_258 x1 x3 x4 x5 x6 ((fv_X5_find x4 (1 : Int32) ((fv_X5_carryOff (-1 : Int32) (1 : Int32) M).2)).2))) else (fv_L_fails_258 x1 x3 x4 x5 x6 ((fv_X5_carryOff (-1 : Int32) (1 : Int32) M).2))) else (fv_L_fails_258 x1 x3 x4 x5 x6 M)
def ok_L_fails_187 (x1 : Int64) (x3 : Int32) (x4 : Int32) (x5 : Int32) (x6 : Int32) (s0 : Int32) (M : ps_M) : Prop := (s0 = (-1 : Int32) → ((ok_X5_carryOff (-1 : Int32) (1 : Int32) M) ∧ (((fv_X5_carryOff (-1 : Int32) (1 : Int32) M).1 = (-1 : Int32) → ((ok_X5_find x4 (1 : Int32) ((fv_X5_carryOff (-1 : Int32) (1 : Int32) M).2)) ∧ (((fv_X5_find x4 (1 : Int32) ((fv_X5_carryOff (-1 : Int32) (1 : Int32) M).2)).1 = (-1 : Int32) → ((ok_X5_countBox x4 (1 : Int32) ((fv_X5_find x4 (1 : Int32) ((fv_X5_carryOff (-1 : Int32) (1 : Int32) M).2)).2)) ∧ (((fv_X5_countBox x4 (1 : Int32) ((fv_X5_find x4 (1 : Int32) ((fv_X5_carryOff (-1 : Int32) (1 : Int32) M).2)).2)).1 = (-1 : Int32) → ((ok_X5_readArrivals x4 (14 : Int32) ((fv_X5_countBox x4 (1 : Int32) ((fv_X5_find x4 (1 : Int32) ((fv_X5_carryOff (-1 : Int32) (1 : Int32) M).2)).2)).2)) ∧ (ok_L_fails_231 x1 x3 x4 x5 x6 ((fv_X5_readArrivals x4 (14 : Int32) ((fv_X5_countBox x4 (1 : Int32) ((fv_X5_find x4 (1 : Int32) ((fv_X5_carryOff (-1 : Int32) (1 : Int32) M).2)).2)).2)).1) ((fv_X5_readArrivals x4 (14 : Int32) ((fv_X5_countBox x4 (1 : Int32) ((fv_X5_find x4 (1 : Int32) ((fv_X5_carryOff (-1 : Int32) (1 : Int32) M).2)).2)).2)).2)))) ∧ (¬ ((fv_X5_countBox x4 (1 : Int32) ((fv_X5_find x4 (1 : Int32) ((fv_X5_carryOff (-1 : Int32) (1 : Int32) M).2)).2)).1 = (-1 : Int32)) → (ok_L_fails_258 x1 x3 x4 x5 x6 ((fv_X5_countBox x4 (1 : Int32) ((fv_X5_find x4 (1 : Int32) ((fv_X5_carryOff (-1 : Int32) (1 : Int32) M).2)).2)).2)))))) ∧ (¬ ((fv_X5_find x4 (1 : Int32) ((fv_X5_carryOff (-1 : Int32) (1 : Int32) M).2)).1 = (-1 : Int32)) → (ok_L_fails_258 x1 x3 x4 x5 x6 ((fv_X5_find x4 (1 : Int32) ((fv_X5_carryOff (-1 : Int32) (1 : Int32) M).2)).2)))))) ∧ (¬ ((fv_X5_carryOff (-1 : Int32) (1 : Int32) M).1 = (-1 : Int32)) → (ok_L_fails_258 x1 x3 x4 x5 x6 ((fv_X5_carryOff (-1 : Int32) (1 : Int32) M).2)))))) ∧ (¬ (s0 = (-1 : Int32)) → (ok_L_fails_258 x1 x3 x4 x5 x6 M))
set_option maxRecDepth 100000 in
set_option maxHeartbeats 4000000 in
theorem bw_L_fails_187 {E : ps_E} {X : ps_X (Int32 × ps_M)} (C : ps_C (ps_Yc E) X cL_fails RL (some .boolean) 6 131 8) (RT : ps_RI (ps_Yc E) X cL_fails .boolean) (x1 : Int64) (x3 : Int32) (x4 : Int32) (x5 : Int32) (x6 : Int32) (s0 : Int32) (M : ps_M) (hk : ok_L_fails_187 x1 x3 x4 x5 x6 s0 M) : ps_G (ps_Yc E) X (fv_L_fails_187 x1 x3 x4 x5 x6 s0 M) 187 [(0, .ref (ps_ad E 0)), (1, .long x1), (3, .int x3), (4, .int x4), (5, .int x5), (6, .int x6)] [.int s0] M := by
  unfold fv_L_fails_187
  unfold ok_L_fails_187 at hk
  refine gw_iconst C 188 dL_fails_187 (v := (-1)) (by decide) rfl ?_
  refine gw_ic_ne C 258 191 dL_fails_188 (by decide) rfl (fun c188 => ?_) (fun c188 => ?_)
  · refine gw_aload_n C 192 dL_fails_191 0 rfl rfl ?_
    refine gw_iconst C 193 dL_fails_192 (v := (-1)) (by decide) rfl ?_
    refine gw_iconst C 194 dL_fails_193 (v := 1) (by decide) rfl ?_
    refine gw_cVi C 197 dL_fails_194 rfl yv_X5_carryOff lk_L_63 [.int (-1 : Int32), .int (1 : Int32)] [] rfl (ct_X5_carryOff (E := E) (l := ps_l X) (-1 : Int32) (1 : Int32) M (hk.1 c188).1) rc_P rfl (Nat.le_of_ble_eq_true rfl) (Nat.le_of_ble_eq_true rfl) (Nat.le_of_ble_eq_true rfl) ?_
    refine gw_iconst C 198 dL_fails_197 (v := (-1)) (by decide) rfl ?_
    refine gw_ic_ne C 258 201 dL_fails_198 (by decide) rfl (fun c198 => ?_) (fun c198 => ?_)
    · refine gw_aload_n C 202 dL_fails_201 0 rfl rfl ?_
      refine gw_iload C 204 dL_fails_202 3 rfl rfl ?_
      refine gw_iconst C 205 dL_fails_204 (v := 1) (by decide) rfl ?_
      refine gw_cVi C 208 dL_fails_205 rfl yv_X5_find lk_L_66 [.int x4, .int (1 : Int32)] [] rfl (ct_X5_find (E := E) (l := ps_l X) x4 (1 : Int32) ((fv_X5_carryOff (-1 : Int32) (1 : Int32) M).2) ((hk.1 c188).2.1 c198).1) rc_P rfl (Nat.le_of_ble_eq_true rfl) (Nat.le_of_ble_eq_true rfl) (Nat.le_of_ble_eq_true rfl) ?_
      refine gw_iconst C 209 dL_fails_208 (v := (-1)) (by decide) rfl ?_
      refine gw_ic_ne C 258 212 dL_fails_209 (by decide) rfl (fun c209 => ?_) (fun c209 => ?_)
      · refine gw_aload_n C 213 dL_fails_212 0 rfl rfl ?_
        refine gw_iload C 215 dL_fails_213 3 rfl rfl ?_
        refine gw_iconst C 216 dL_fails_215 (v := 1) (by decide) rfl ?_
        refine gw_cVi C 219 dL_fails_216 rfl yv_X5_countBox lk_L_69 [.int x4, .int (1 : Int32)] [] rfl (ct_X5_countBox (E := E) (l := ps_l X) x4 (1 : Int32) ((fv_X5_find x4 (1 : Int32) ((fv_X5_carryOff (-1 : Int32) (1 : Int32) M).2)).2) (((hk.1 c188).2.1 c198).2.1 c209).1) rc_P rfl (Nat.le_of_ble_eq_true rfl) (Nat.le_of_ble_eq_true rfl) (Nat.le_of_ble_eq_true rfl) ?_
        refine gw_iconst C 220 dL_fails_219 (v := (-1)) (by decide) rfl ?_
        refine gw_ic_ne C 258 223 dL_fails_220 (by decide) rfl (fun c220 => ?_) (fun c220 => ?_)
        · refine gw_aload_n C 224 dL_fails_223 0 rfl rfl ?_
          refine gw_iload C 226 dL_fails_224 3 rfl rfl ?_
          refine gw_bipush C 228 dL_fails_226 (v := 14) (by decide) rfl ?_
          refine gw_cVi C 231 dL_fails_228 rfl yv_X5_readArrivals lk_L_72 [.int x4, .int (14 : Int32)] [] rfl (ct_X5_readArrivals (E := E) (l := ps_l X) x4 (14 : Int32) ((fv_X5_countBox x4 (1 : Int32) ((fv_X5_find x4 (1 : Int32) ((fv_X5_carryOff (-1 : Int32) (1 : Int32) M).2)).2)).2) ((((hk.1 c188).2.1 c198).2.1 c209).2.1 c220).1) rc_P rfl (Nat.le_of_ble_eq_true rfl) (Nat.le_of_ble_eq_true rfl) (Nat.le_of_ble_eq_true rfl) ?_
          exact bw_L_fails_231 C RT  x1 x3 x4 x5 x6 ((fv_X5_readArrivals x4 (14 : Int32) ((fv_X5_countBox x4 (1 : Int32) ((fv_X5_find x4 (1 : Int32) ((fv_X5_carryOff (-1 : Int32) (1 : Int32) M).2)).2)).2)).1) ((fv_X5_readArrivals x4 (14 : Int32) ((fv_X5_countBox x4 (1 : Int32) ((fv_X5_find x4 (1 : Int32) ((fv_X5_carryOff (-1 : Int32) (1 : Int32) M).2)).2)).2)).2) ((((hk.1 c188).2.1 c198).2.1 c209).2.1 c220).2
        · exact bw_L_fails_258 C RT  x1 x3 x4 x5 x6 ((fv_X5_countBox x4 (1 : Int32) ((fv_X5_find x4 (1 : Int32) ((fv_X5_carryOff (-1 : Int32) (1 : Int32) M).2)).2)).2) ((((hk.1 c188).2.1 c198).2.1 c209).2.2 c220)
      · exact bw_L_fails_258 C RT  x1 x3 x4 x5 x6 ((fv_X5_find x4 (1 : Int32) ((fv_X5_carryOff (-1 : Int32) (1 : Int32) M).2)).2) (((hk.1 c188).2.1 c198).2.2 c209)
    · exact bw_L_fails_258 C RT  x1 x3 x4 x5 x6 ((fv_X5_carryOff (-1 : Int32) (1 : Int32) M).2) ((hk.1 c188).2.2 c198)
  · exact bw_L_fails_258 C RT  x1 x3 x4 x5 x6 M (hk.2 c188)
def fv_L_fails_140 (x1 : Int64) (x3 : Int32) (x4 : Int32) (x5 : Int32) (x6 : Int32) (s0 : Int32) (M : ps_M) : Int32 × ps_M := if s0 = (-2 : Int32) then (if (fv_X5_supply x4 (1 : Int32) M).1 = (-1 : Int32) then (if (fv_X5_movePapers x4 (0 : Int32) (1 : Int32) ((fv_X5_supply x4 (1 : Int32) M).2)).1 = (-1 : Int32) then (if (fv_X5_movePapers (0 : Int32) x4 (1 : Int32) ((fv_X5_movePapers x4 (0 : Int32) (1 : Int32) ((fv_X5_supply x4 (1 : Int32) M).2)).2)).1 = (-1 : Int32) then (fv_L_fails_187 x1 x3 x4 x5 x6 ((fv_X5_spoil x4 (1 : Int32) ((fv_X5_movePapers (0 : Int32) x4 (1 : Int32) ((fv_X5_movePapers x4 (0 : Int32) (1 : Int32) ((fv_X5_supply x4 (1 : Int32) M).2)).2)).2)).1) ((fv_X5_spoil x4 (1 : Int32) ((fv_X5_movePapers (0 : Int32) x4 (1 : Int32) ((fv_X5_movePapers x4 (0 : Int32) (1 : Int32) ((fv_X5_supply x4 (1 : Int32) M).2)).2)).2)).2)) else (fv_L_fails_258 x1 x3 x4 x5 x6 ((fv_X5_movePapers (0 : Int32) x4 (1 : Int32) ((fv_X5_movePapers x4 (0 : Int32) (1 : Int32) ((fv_X5_supply x4 (1 : Int32) M).2)).2)).2))) else (fv_L_fails_258 x1 x3 x4 x5 x6 ((fv_X5_movePapers x4 (0 : Int32) (1 : Int32) ((fv_X5_supply x4 (1 : Int32) M).2)).2))) else (fv_L_fails_258 x1 x3 x4 x5 x6 ((fv_X5_supply x4 (1 : Int32) M).2))) else (fv_L_fails_258 x1 x3 x4 x5 x6 M)
def ok_L_fails_140 (x1 : Int64) (x3 : Int32) (x4 : Int32) (x5 : Int32) (x6 : Int32) (s0 : Int32) (M : ps_M) : Prop := (s0 = (-2 : Int32) → ((ok_X5_supply x4 (1 : Int32) M) ∧ (((fv_X5_supply x4 (1 : Int32) M).1 = (-1 : Int32) → ((ok_X5_movePapers x4 (0 : Int32) (1 : Int32) ((fv_X5_supply x4 (1 : Int32) M).2)) ∧ (((fv_X5_movePapers x4 (0 : Int32) (1 : Int32) ((fv_X5_supply x4 (1 : Int32) M).2)).1 = (-1 : Int32) → ((ok_X5_movePapers (0 : Int32) x4 (1 : Int32) ((fv_X5_movePapers x4 (0 : Int32) (1 : Int32) ((fv_X5_supply x4 (1 : Int32) M).2)).2)) ∧ (((fv_X5_movePapers (0 : Int32) x4 (1 : Int32) ((fv_X5_movePapers x4 (0 : Int32) (1 : Int32) ((fv_X5_supply x4 (1 : Int32) M).2)).2)).1 = (-1 : Int32) → ((ok_X5_spoil x4 (1 : Int32) ((fv_X5_movePapers (0 : Int32) x4 (1 : Int32) ((fv_X5_movePapers x4 (0 : Int32) (1 : Int32) ((fv_X5_supply x4 (1 : Int32) M).2)).2)).2)) ∧ (ok_L_fails_187 x1 x3 x4 x5 x6 ((fv_X5_spoil x4 (1 : Int32) ((fv_X5_movePapers (0 : Int32) x4 (1 : Int32) ((fv_X5_movePapers x4 (0 : Int32) (1 : Int32) ((fv_X5_supply x4 (1 : Int32) M).2)).2)).2)).1) ((fv_X5_spoil x4 (1 : Int32) ((fv_X5_movePapers (0 : Int32) x4 (1 : Int32) ((fv_X5_movePapers x4 (0 : Int32) (1 : Int32) ((fv_X5_supply x4 (1 : Int32) M).2)).2)).2)).2)))) ∧ (¬ ((fv_X5_movePapers (0 : Int32) x4 (1 : Int32) ((fv_X5_movePapers x4 (0 : Int32) (1 : Int32) ((fv_X5_supply x4 (1 : Int32) M).2)).2)).1 = (-1 : Int32)) → (ok_L_fails_258 x1 x3 x4 x5 x6 ((fv_X5_movePapers (0 : Int32) x4 (1 : Int32) ((fv_X5_movePapers x4 (0 : Int32) (1 : Int32) ((fv_X5_supply x4 (1 : Int32) M).2)).2)).2)))))) ∧ (¬ ((fv_X5_movePapers x4 (0 : Int32) (1 : Int32) ((fv_X5_supply x4 (1 : Int32) M).2)).1 = (-1 : Int32)) → (ok_L_fails_258 x1 x3 x4 x5 x6 ((fv_X5_movePapers x4 (0 : Int32) (1 : Int32) ((fv_X5_supply x4 (1 : Int32) M).2)).2)))))) ∧ (¬ ((fv_X5_supply x4 (1 : Int32) M).1 = (-1 : Int32)) → (ok_L_fails_258 x1 x3 x4 x5 x6 ((fv_X5_supply x4 (1 : Int32) M).2)))))) ∧ (¬ (s0 = (-2 : Int32)) → (ok_L_fails_258 x1 x3 x4 x5 x6 M))
set_option maxRecDepth 100000 in
set_option maxHeartbeats 4000000 in
theorem bw_L_fails_140 {E : ps_E} {X : ps_X (Int32 × ps_M)} (C : ps_C (ps_Yc E) X cL_fails RL (some .boolean) 6 131 8) (RT : ps_RI (ps_Yc E) X cL_fails .boolean) (x1 : Int64) (x3 : Int32) (x4 : Int32) (x5 : Int32) (x6 : Int32) (s0 : Int32) (M : ps_M) (hk : ok_L_fails_140 x1 x3 x4 x5 x6 s0 M) : ps_G (ps_Yc E) X (fv_L_fails_140 x1 x3 x4 x5 x6 s0 M) 140 [(0, .ref (ps_ad E 0)), (1, .long x1), (3, .int x3), (4, .int x4), (5, .int x5), (6, .int x6)] [.int s0] M := by
  unfold fv_L_fails_140
  unfold ok_L_fails_140 at hk
  refine gw_bipush C 142 dL_fails_140 (v := (-2)) (by decide) rfl ?_
  refine gw_ic_ne C 258 145 dL_fails_142 (by decide) rfl (fun c142 => ?_) (fun c142 => ?_)
  · refine gw_aload_n C 146 dL_fails_145 0 rfl rfl ?_
    refine gw_iload C 148 dL_fails_146 3 rfl rfl ?_
    refine gw_iconst C 149 dL_fails_148 (v := 1) (by decide) rfl ?_
    refine gw_cVi C 152 dL_fails_149 rfl yv_X5_supply lk_L_54 [.int x4, .int (1 : Int32)] [] rfl (ct_X5_supply (E := E) (l := ps_l X) x4 (1 : Int32) M (hk.1 c142).1) rc_P rfl (Nat.le_of_ble_eq_true rfl) (Nat.le_of_ble_eq_true rfl) (Nat.le_of_ble_eq_true rfl) ?_
    refine gw_iconst C 153 dL_fails_152 (v := (-1)) (by decide) rfl ?_
    refine gw_ic_ne C 258 156 dL_fails_153 (by decide) rfl (fun c153 => ?_) (fun c153 => ?_)
    · refine gw_aload_n C 157 dL_fails_156 0 rfl rfl ?_
      refine gw_iload C 159 dL_fails_157 3 rfl rfl ?_
      refine gw_iconst C 160 dL_fails_159 (v := 0) (by decide) rfl ?_
      refine gw_iconst C 161 dL_fails_160 (v := 1) (by decide) rfl ?_
      refine gw_cVi C 164 dL_fails_161 rfl yv_X5_movePapers lk_L_57 [.int x4, .int (0 : Int32), .int (1 : Int32)] [] rfl (ct_X5_movePapers (E := E) (l := ps_l X) x4 (0 : Int32) (1 : Int32) ((fv_X5_supply x4 (1 : Int32) M).2) ((hk.1 c142).2.1 c153).1) rc_P rfl (Nat.le_of_ble_eq_true rfl) (Nat.le_of_ble_eq_true rfl) (Nat.le_of_ble_eq_true rfl) ?_
      refine gw_iconst C 165 dL_fails_164 (v := (-1)) (by decide) rfl ?_
      refine gw_ic_ne C 258 168 dL_fails_165 (by decide) rfl (fun c165 => ?_) (fun c165 => ?_)
      · refine gw_aload_n C 169 dL_fails_168 0 rfl rfl ?_
        refine gw_iconst C 170 dL_fails_169 (v := 0) (by decide) rfl ?_
        refine gw_iload C 172 dL_fails_170 3 rfl rfl ?_
        refine gw_iconst C 173 dL_fails_172 (v := 1) (by decide) rfl ?_
        refine gw_cVi C 176 dL_fails_173 rfl yv_X5_movePapers lk_L_57 [.int (0 : Int32), .int x4, .int (1 : Int32)] [] rfl (ct_X5_movePapers (E := E) (l := ps_l X) (0 : Int32) x4 (1 : Int32) ((fv_X5_movePapers x4 (0 : Int32) (1 : Int32) ((fv_X5_supply x4 (1 : Int32) M).2)).2) (((hk.1 c142).2.1 c153).2.1 c165).1) rc_P rfl (Nat.le_of_ble_eq_true rfl) (Nat.le_of_ble_eq_true rfl) (Nat.le_of_ble_eq_true rfl) ?_
        refine gw_iconst C 177 dL_fails_176 (v := (-1)) (by decide) rfl ?_
        refine gw_ic_ne C 258 180 dL_fails_177 (by decide) rfl (fun c177 => ?_) (fun c177 => ?_)
        · refine gw_aload_n C 181 dL_fails_180 0 rfl rfl ?_
          refine gw_iload C 183 dL_fails_181 3 rfl rfl ?_
          refine gw_iconst C 184 dL_fails_183 (v := 1) (by decide) rfl ?_
          refine gw_cVi C 187 dL_fails_184 rfl yv_X5_spoil lk_L_60 [.int x4, .int (1 : Int32)] [] rfl (ct_X5_spoil (E := E) (l := ps_l X) x4 (1 : Int32) ((fv_X5_movePapers (0 : Int32) x4 (1 : Int32) ((fv_X5_movePapers x4 (0 : Int32) (1 : Int32) ((fv_X5_supply x4 (1 : Int32) M).2)).2)).2) ((((hk.1 c142).2.1 c153).2.1 c165).2.1 c177).1) rc_P rfl (Nat.le_of_ble_eq_true rfl) (Nat.le_of_ble_eq_true rfl) (Nat.le_of_ble_eq_true rfl) ?_
          exact bw_L_fails_187 C RT  x1 x3 x4 x5 x6 ((fv_X5_spoil x4 (1 : Int32) ((fv_X5_movePapers (0 : Int32) x4 (1 : Int32) ((fv_X5_movePapers x4 (0 : Int32) (1 : Int32) ((fv_X5_supply x4 (1 : Int32) M).2)).2)).2)).1) ((fv_X5_spoil x4 (1 : Int32) ((fv_X5_movePapers (0 : Int32) x4 (1 : Int32) ((fv_X5_movePapers x4 (0 : Int32) (1 : Int32) ((fv_X5_supply x4 (1 : Int32) M).2)).2)).2)).2) ((((hk.1 c142).2.1 c153).2.1 c165).2.1 c177).2
        · exact bw_L_fails_258 C RT  x1 x3 x4 x5 x6 ((fv_X5_movePapers (0 : Int32) x4 (1 : Int32) ((fv_X5_movePapers x4 (0 : Int32) (1 : Int32) ((fv_X5_supply x4 (1 : Int32) M).2)).2)).2) ((((hk.1 c142).2.1 c153).2.1 c165).2.2 c177)
      · exact bw_L_fails_258 C RT  x1 x3 x4 x5 x6 ((fv_X5_movePapers x4 (0 : Int32) (1 : Int32) ((fv_X5_supply x4 (1 : Int32) M).2)).2) (((hk.1 c142).2.1 c153).2.2 c165)
    · exact bw_L_fails_258 C RT  x1 x3 x4 x5 x6 ((fv_X5_supply x4 (1 : Int32) M).2) ((hk.1 c142).2.2 c153)
  · exact bw_L_fails_258 C RT  x1 x3 x4 x5 x6 M (hk.2 c142)
def fv_L_fails_88 (x1 : Int64) (x3 : Int32) (x4 : Int32) (x5 : Int32) (x6 : Int32) (s0 : Int32) (M : ps_M) : Int32 × ps_M := if s0 = (-1 : Int32) then (if (fv_X5_assign x5 (0 : Int32) M).1 = (-1 : Int32) then (if (fv_X5_assign (0 : Int32) x4 ((fv_X5_assign x5 (0 : Int32) M).2)).1 = (-1 : Int32) then (if (fv_X5_relieve x5 ((fv_X5_assign (0 : Int32) x4 ((fv_X5_assign x5 (0 : Int32) M).2)).2)).1 = (-1 : Int32) then (if (fv_X5_pass (0 : Int32) ((fv_X5_relieve x5 ((fv_X5_assign (0 : Int32) x4 ((fv_X5_assign x5 (0 : Int32) M).2)).2)).2)).1 = (-2 : Int32) then (fv_L_fails_140 x1 x3 x4 x5 x6 ((fv_X5_pass (19 : Int32) ((fv_X5_pass (0 : Int32) ((fv_X5_relieve x5 ((fv_X5_assign (0 : Int32) x4 ((fv_X5_assign x5 (0 : Int32) M).2)).2)).2)).2)).1) ((fv_X5_pass (19 : Int32) ((fv_X5_pass (0 : Int32) ((fv_X5_relieve x5 ((fv_X5_assign (0 : Int32) x4 ((fv_X5_assign x5 (0 : Int32) M).2)).2)).2)).2)).2)) else (fv_L_fails_258 x1 x3 x4 x5 x6 ((fv_X5_pass (0 : Int32) ((fv_X5_relieve x5 ((fv_X5_assign (0 : Int32) x4 ((fv_X5_assign x5 (0 : Int32) M).2)).2)).2)).2))) else (fv_L_fails_258 x1 x3 x4 x5 x6 ((fv_X5_relieve x5 ((fv_X5_assign (0 : Int32) x4 ((fv_X5_assign x5 (0 : Int32) M).2)).2)).2))) else (fv_L_fails_258 x1 x3 x4 x5 x6 ((fv_X5_assign (0 : Int32) x4 ((fv_X5_assign x5 (0 : Int32) M).2)).2))) else (fv_L_fails_258 x1 x3 x4 x5 x6 ((fv_X5_assign x5 (0 : Int32) M).2))) else (fv_L_fails_258 x1 x3 x4 x5 x6 M)
def ok_L_fails_88 (x1 : Int64) (x3 : Int32) (x4 : Int32) (x5 : Int32) (x6 : Int32) (s0 : Int32) (M : ps_M) : Prop := (s0 = (-1 : Int32) → ((ok_X5_assign x5 (0 : Int32) M) ∧ (((fv_X5_assign x5 (0 : Int32) M).1 = (-1 : Int32) → ((ok_X5_assign (0 : Int32) x4 ((fv_X5_assign x5 (0 : Int32) M).2)) ∧ (((fv_X5_assign (0 : Int32) x4 ((fv_X5_assign x5 (0 : Int32) M).2)).1 = (-1 : Int32) → ((ok_X5_relieve x5 ((fv_X5_assign (0 : Int32) x4 ((fv_X5_assign x5 (0 : Int32) M).2)).2)) ∧ (((fv_X5_relieve x5 ((fv_X5_assign (0 : Int32) x4 ((fv_X5_assign x5 (0 : Int32) M).2)).2)).1 = (-1 : Int32) → ((ok_X5_pass (0 : Int32) ((fv_X5_relieve x5 ((fv_X5_assign (0 : Int32) x4 ((fv_X5_assign x5 (0 : Int32) M).2)).2)).2)) ∧ (((fv_X5_pass (0 : Int32) ((fv_X5_relieve x5 ((fv_X5_assign (0 : Int32) x4 ((fv_X5_assign x5 (0 : Int32) M).2)).2)).2)).1 = (-2 : Int32) → ((ok_X5_pass (19 : Int32) ((fv_X5_pass (0 : Int32) ((fv_X5_relieve x5 ((fv_X5_assign (0 : Int32) x4 ((fv_X5_assign x5 (0 : Int32) M).2)).2)).2)).2)) ∧ (ok_L_fails_140 x1 x3 x4 x5 x6 ((fv_X5_pass (19 : Int32) ((fv_X5_pass (0 : Int32) ((fv_X5_relieve x5 ((fv_X5_assign (0 : Int32) x4 ((fv_X5_assign x5 (0 : Int32) M).2)).2)).2)).2)).1) ((fv_X5_pass (19 : Int32) ((fv_X5_pass (0 : Int32) ((fv_X5_relieve x5 ((fv_X5_assign (0 : Int32) x4 ((fv_X5_assign x5 (0 : Int32) M).2)).2)).2)).2)).2)))) ∧ (¬ ((fv_X5_pass (0 : Int32) ((fv_X5_relieve x5 ((fv_X5_assign (0 : Int32) x4 ((fv_X5_assign x5 (0 : Int32) M).2)).2)).2)).1 = (-2 : Int32)) → (ok_L_fails_258 x1 x3 x4 x5 x6 ((fv_X5_pass (0 : Int32) ((fv_X5_relieve x5 ((fv_X5_assign (0 : Int32) x4 ((fv_X5_assign x5 (0 : Int32) M).2)).2)).2)).2)))))) ∧ (¬ ((fv_X5_relieve x5 ((fv_X5_assign (0 : Int32) x4 ((fv_X5_assign x5 (0 : Int32) M).2)).2)).1 = (-1 : Int32)) → (ok_L_fails_258 x1 x3 x4 x5 x6 ((fv_X5_relieve x5 ((fv_X5_assign (0 : Int32) x4 ((fv_X5_assign x5 (0 : Int32) M).2)).2)).2)))))) ∧ (¬ ((fv_X5_assign (0 : Int32) x4 ((fv_X5_assign x5 (0 : Int32) M).2)).1 = (-1 : Int32)) → (ok_L_fails_258 x1 x3 x4 x5 x6 ((fv_X5_assign (0 : Int32) x4 ((fv_X5_assign x5 (0 : Int32) M).2)).2)))))) ∧ (¬ ((fv_X5_assign x5 (0 : Int32) M).1 = (-1 : Int32)) → (ok_L_fails_258 x1 x3 x4 x5 x6 ((fv_X5_assign x5 (0 : Int32) M).2)))))) ∧ (¬ (s0 = (-1 : Int32)) → (ok_L_fails_258 x1 x3 x4 x5 x6 M))
set_option maxRecDepth 100000 in
set_option maxHeartbeats 4000000 in
theorem bw_L_fails_88 {E : ps_E} {X : ps_X (Int32 × ps_M)} (C : ps_C (ps_Yc E) X cL_fails RL (some .boolean) 6 131 8) (RT : ps_RI (ps_Yc E) X cL_fails .boolean) (x1 : Int64) (x3 : Int32) (x4 : Int32) (x5 : Int32) (x6 : Int32) (s0 : Int32) (M : ps_M) (hk : ok_L_fails_88 x1 x3 x4 x5 x6 s0 M) : ps_G (ps_Yc E) X (fv_L_fails_88 x1 x3 x4 x5 x6 s0 M) 88 [(0, .ref (ps_ad E 0)), (1, .long x1), (3, .int x3), (4, .int x4), (5, .int x5), (6, .int x6)] [.int s0] M := by
  unfold fv_L_fails_88
  unfold ok_L_fails_88 at hk
  refine gw_iconst C 89 dL_fails_88 (v := (-1)) (by decide) rfl ?_
  refine gw_ic_ne C 258 92 dL_fails_89 (by decide) rfl (fun c89 => ?_) (fun c89 => ?_)
  · refine gw_aload_n C 93 dL_fails_92 0 rfl rfl ?_
    refine gw_iload C 95 dL_fails_93 4 rfl rfl ?_
    refine gw_iconst C 96 dL_fails_95 (v := 0) (by decide) rfl ?_
    refine gw_cVi C 99 dL_fails_96 rfl yv_X5_assign lk_L_45 [.int x5, .int (0 : Int32)] [] rfl (ct_X5_assign (E := E) (l := ps_l X) x5 (0 : Int32) M (hk.1 c89).1) rc_P rfl (Nat.le_of_ble_eq_true rfl) (Nat.le_of_ble_eq_true rfl) (Nat.le_of_ble_eq_true rfl) ?_
    refine gw_iconst C 100 dL_fails_99 (v := (-1)) (by decide) rfl ?_
    refine gw_ic_ne C 258 103 dL_fails_100 (by decide) rfl (fun c100 => ?_) (fun c100 => ?_)
    · refine gw_aload_n C 104 dL_fails_103 0 rfl rfl ?_
      refine gw_iconst C 105 dL_fails_104 (v := 0) (by decide) rfl ?_
      refine gw_iload C 107 dL_fails_105 3 rfl rfl ?_
      refine gw_cVi C 110 dL_fails_107 rfl yv_X5_assign lk_L_45 [.int (0 : Int32), .int x4] [] rfl (ct_X5_assign (E := E) (l := ps_l X) (0 : Int32) x4 ((fv_X5_assign x5 (0 : Int32) M).2) ((hk.1 c89).2.1 c100).1) rc_P rfl (Nat.le_of_ble_eq_true rfl) (Nat.le_of_ble_eq_true rfl) (Nat.le_of_ble_eq_true rfl) ?_
      refine gw_iconst C 111 dL_fails_110 (v := (-1)) (by decide) rfl ?_
      refine gw_ic_ne C 258 114 dL_fails_111 (by decide) rfl (fun c111 => ?_) (fun c111 => ?_)
      · refine gw_aload_n C 115 dL_fails_114 0 rfl rfl ?_
        refine gw_iload C 117 dL_fails_115 4 rfl rfl ?_
        refine gw_cVi C 120 dL_fails_117 rfl yv_X5_relieve lk_L_48 [.int x5] [] rfl (ct_X5_relieve (E := E) (l := ps_l X) x5 ((fv_X5_assign (0 : Int32) x4 ((fv_X5_assign x5 (0 : Int32) M).2)).2) (((hk.1 c89).2.1 c100).2.1 c111).1) rc_P rfl (Nat.le_of_ble_eq_true rfl) (Nat.le_of_ble_eq_true rfl) (Nat.le_of_ble_eq_true rfl) ?_
        refine gw_iconst C 121 dL_fails_120 (v := (-1)) (by decide) rfl ?_
        refine gw_ic_ne C 258 124 dL_fails_121 (by decide) rfl (fun c121 => ?_) (fun c121 => ?_)
        · refine gw_aload_n C 125 dL_fails_124 0 rfl rfl ?_
          refine gw_iconst C 126 dL_fails_125 (v := 0) (by decide) rfl ?_
          refine gw_cVi C 129 dL_fails_126 rfl yv_X5_pass lk_L_51 [.int (0 : Int32)] [] rfl (ct_X5_pass (E := E) (l := ps_l X) (0 : Int32) ((fv_X5_relieve x5 ((fv_X5_assign (0 : Int32) x4 ((fv_X5_assign x5 (0 : Int32) M).2)).2)).2) ((((hk.1 c89).2.1 c100).2.1 c111).2.1 c121).1) rc_P rfl (Nat.le_of_ble_eq_true rfl) (Nat.le_of_ble_eq_true rfl) (Nat.le_of_ble_eq_true rfl) ?_
          refine gw_bipush C 131 dL_fails_129 (v := (-2)) (by decide) rfl ?_
          refine gw_ic_ne C 258 134 dL_fails_131 (by decide) rfl (fun c131 => ?_) (fun c131 => ?_)
          · refine gw_aload_n C 135 dL_fails_134 0 rfl rfl ?_
            refine gw_bipush C 137 dL_fails_135 (v := 19) (by decide) rfl ?_
            refine gw_cVi C 140 dL_fails_137 rfl yv_X5_pass lk_L_51 [.int (19 : Int32)] [] rfl (ct_X5_pass (E := E) (l := ps_l X) (19 : Int32) ((fv_X5_pass (0 : Int32) ((fv_X5_relieve x5 ((fv_X5_assign (0 : Int32) x4 ((fv_X5_assign x5 (0 : Int32) M).2)).2)).2)).2) (((((hk.1 c89).2.1 c100).2.1 c111).2.1 c121).2.1 c131).1) rc_P rfl (Nat.le_of_ble_eq_true rfl) (Nat.le_of_ble_eq_true rfl) (Nat.le_of_ble_eq_true rfl) ?_
            exact bw_L_fails_140 C RT  x1 x3 x4 x5 x6 ((fv_X5_pass (19 : Int32) ((fv_X5_pass (0 : Int32) ((fv_X5_relieve x5 ((fv_X5_assign (0 : Int32) x4 ((fv_X5_assign x5 (0 : Int32) M).2)).2)).2)).2)).1) ((fv_X5_pass (19 : Int32) ((fv_X5_pass (0 : Int32) ((fv_X5_relieve x5 ((fv_X5_assign (0 : Int32) x4 ((fv_X5_assign x5 (0 : Int32) M).2)).2)).2)).2)).2) (((((hk.1 c89).2.1 c100).2.1 c111).2.1 c121).2.1 c131).2
          · exact bw_L_fails_258 C RT  x1 x3 x4 x5 x6 ((fv_X5_pass (0 : Int32) ((fv_X5_relieve x5 ((fv_X5_assign (0 : Int32) x4 ((fv_X5_assign x5 (0 : Int32) M).2)).2)).2)).2) (((((hk.1 c89).2.1 c100).2.1 c111).2.1 c121).2.2 c131)
        · exact bw_L_fails_258 C RT  x1 x3 x4 x5 x6 ((fv_X5_relieve x5 ((fv_X5_assign (0 : Int32) x4 ((fv_X5_assign x5 (0 : Int32) M).2)).2)).2) ((((hk.1 c89).2.1 c100).2.1 c111).2.2 c121)
      · exact bw_L_fails_258 C RT  x1 x3 x4 x5 x6 ((fv_X5_assign (0 : Int32) x4 ((fv_X5_assign x5 (0 : Int32) M).2)).2) (((hk.1 c89).2.1 c100).2.2 c111)
    · exact bw_L_fails_258 C RT  x1 x3 x4 x5 x6 ((fv_X5_assign x5 (0 : Int32) M).2) ((hk.1 c89).2.2 c100)
  · exact bw_L_fails_258 C RT  x1 x3 x4 x5 x6 M (hk.2 c89)
def fv_L_fails_39 (x1 : Int64) (x3 : Int32) (x4 : Int32) (x5 : Int32) (x6 : Int32) (s0 : Int32) (M : ps_M) : Int32 × ps_M := if s0 = (-2 : Int32) then (if (fv_X5_addClerk (61 : Int32) (1 : Int32) M).1 = (-2 : Int32) then (if (fv_X5_addClerk (1 : Int32) (0 : Int32) ((fv_X5_addClerk (61 : Int32) (1 : Int32) M).2)).1 = (-2 : Int32) then (if (fv_X5_addClerk (1 : Int32) (7 : Int32) ((fv_X5_addClerk (1 : Int32) (0 : Int32) ((fv_X5_addClerk (61 : Int32) (1 : Int32) M).2)).2)).1 = (-2 : Int32) then (fv_L_fails_88 x1 x3 x4 x5 x6 ((fv_X5_setArrivals x4 (14 : Int32) (1 : Int32) ((fv_X5_addClerk (1 : Int32) (7 : Int32) ((fv_X5_addClerk (1 : Int32) (0 : Int32) ((fv_X5_addClerk (61 : Int32) (1 : Int32) M).2)).2)).2)).1) ((fv_X5_setArrivals x4 (14 : Int32) (1 : Int32) ((fv_X5_addClerk (1 : Int32) (7 : Int32) ((fv_X5_addClerk (1 : Int32) (0 : Int32) ((fv_X5_addClerk (61 : Int32) (1 : Int32) M).2)).2)).2)).2)) else (fv_L_fails_258 x1 x3 x4 x5 x6 ((fv_X5_addClerk (1 : Int32) (7 : Int32) ((fv_X5_addClerk (1 : Int32) (0 : Int32) ((fv_X5_addClerk (61 : Int32) (1 : Int32) M).2)).2)).2))) else (fv_L_fails_258 x1 x3 x4 x5 x6 ((fv_X5_addClerk (1 : Int32) (0 : Int32) ((fv_X5_addClerk (61 : Int32) (1 : Int32) M).2)).2))) else (fv_L_fails_258 x1 x3 x4 x5 x6 ((fv_X5_addClerk (61 : Int32) (1 : Int32) M).2))) else (fv_L_fails_258 x1 x3 x4 x5 x6 M)
def ok_L_fails_39 (x1 : Int64) (x3 : Int32) (x4 : Int32) (x5 : Int32) (x6 : Int32) (s0 : Int32) (M : ps_M) : Prop := (s0 = (-2 : Int32) → ((ok_X5_addClerk (61 : Int32) (1 : Int32) M) ∧ (((fv_X5_addClerk (61 : Int32) (1 : Int32) M).1 = (-2 : Int32) → ((ok_X5_addClerk (1 : Int32) (0 : Int32) ((fv_X5_addClerk (61 : Int32) (1 : Int32) M).2)) ∧ (((fv_X5_addClerk (1 : Int32) (0 : Int32) ((fv_X5_addClerk (61 : Int32) (1 : Int32) M).2)).1 = (-2 : Int32) → ((ok_X5_addClerk (1 : Int32) (7 : Int32) ((fv_X5_addClerk (1 : Int32) (0 : Int32) ((fv_X5_addClerk (61 : Int32) (1 : Int32) M).2)).2)) ∧ (((fv_X5_addClerk (1 : Int32) (7 : Int32) ((fv_X5_addClerk (1 : Int32) (0 : Int32) ((fv_X5_addClerk (61 : Int32) (1 : Int32) M).2)).2)).1 = (-2 : Int32) → ((ok_X5_setArrivals x4 (14 : Int32) (1 : Int32) ((fv_X5_addClerk (1 : Int32) (7 : Int32) ((fv_X5_addClerk (1 : Int32) (0 : Int32) ((fv_X5_addClerk (61 : Int32) (1 : Int32) M).2)).2)).2)) ∧ (ok_L_fails_88 x1 x3 x4 x5 x6 ((fv_X5_setArrivals x4 (14 : Int32) (1 : Int32) ((fv_X5_addClerk (1 : Int32) (7 : Int32) ((fv_X5_addClerk (1 : Int32) (0 : Int32) ((fv_X5_addClerk (61 : Int32) (1 : Int32) M).2)).2)).2)).1) ((fv_X5_setArrivals x4 (14 : Int32) (1 : Int32) ((fv_X5_addClerk (1 : Int32) (7 : Int32) ((fv_X5_addClerk (1 : Int32) (0 : Int32) ((fv_X5_addClerk (61 : Int32) (1 : Int32) M).2)).2)).2)).2)))) ∧ (¬ ((fv_X5_addClerk (1 : Int32) (7 : Int32) ((fv_X5_addClerk (1 : Int32) (0 : Int32) ((fv_X5_addClerk (61 : Int32) (1 : Int32) M).2)).2)).1 = (-2 : Int32)) → (ok_L_fails_258 x1 x3 x4 x5 x6 ((fv_X5_addClerk (1 : Int32) (7 : Int32) ((fv_X5_addClerk (1 : Int32) (0 : Int32) ((fv_X5_addClerk (61 : Int32) (1 : Int32) M).2)).2)).2)))))) ∧ (¬ ((fv_X5_addClerk (1 : Int32) (0 : Int32) ((fv_X5_addClerk (61 : Int32) (1 : Int32) M).2)).1 = (-2 : Int32)) → (ok_L_fails_258 x1 x3 x4 x5 x6 ((fv_X5_addClerk (1 : Int32) (0 : Int32) ((fv_X5_addClerk (61 : Int32) (1 : Int32) M).2)).2)))))) ∧ (¬ ((fv_X5_addClerk (61 : Int32) (1 : Int32) M).1 = (-2 : Int32)) → (ok_L_fails_258 x1 x3 x4 x5 x6 ((fv_X5_addClerk (61 : Int32) (1 : Int32) M).2)))))) ∧ (¬ (s0 = (-2 : Int32)) → (ok_L_fails_258 x1 x3 x4 x5 x6 M))
set_option maxRecDepth 100000 in
set_option maxHeartbeats 4000000 in
theorem bw_L_fails_39 {E : ps_E} {X : ps_X (Int32 × ps_M)} (C : ps_C (ps_Yc E) X cL_fails RL (some .boolean) 6 131 8) (RT : ps_RI (ps_Yc E) X cL_fails .boolean) (x1 : Int64) (x3 : Int32) (x4 : Int32) (x5 : Int32) (x6 : Int32) (s0 : Int32) (M : ps_M) (hk : ok_L_fails_39 x1 x3 x4 x5 x6 s0 M) : ps_G (ps_Yc E) X (fv_L_fails_39 x1 x3 x4 x5 x6 s0 M) 39 [(0, .ref (ps_ad E 0)), (1, .long x1), (3, .int x3), (4, .int x4), (5, .int x5), (6, .int x6)] [.int s0] M := by
  unfold fv_L_fails_39
  unfold ok_L_fails_39 at hk
  refine gw_bipush C 41 dL_fails_39 (v := (-2)) (by decide) rfl ?_
  refine gw_ic_ne C 258 44 dL_fails_41 (by decide) rfl (fun c41 => ?_) (fun c41 => ?_)
  · refine gw_aload_n C 45 dL_fails_44 0 rfl rfl ?_
    refine gw_bipush C 47 dL_fails_45 (v := 61) (by decide) rfl ?_
    refine gw_iconst C 48 dL_fails_47 (v := 1) (by decide) rfl ?_
    refine gw_cVi C 51 dL_fails_48 rfl yv_X5_addClerk lk_L_38 [.int (61 : Int32), .int (1 : Int32)] [] rfl (ct_X5_addClerk (E := E) (l := ps_l X) (61 : Int32) (1 : Int32) M (hk.1 c41).1) rc_P rfl (Nat.le_of_ble_eq_true rfl) (Nat.le_of_ble_eq_true rfl) (Nat.le_of_ble_eq_true rfl) ?_
    refine gw_bipush C 53 dL_fails_51 (v := (-2)) (by decide) rfl ?_
    refine gw_ic_ne C 258 56 dL_fails_53 (by decide) rfl (fun c53 => ?_) (fun c53 => ?_)
    · refine gw_aload_n C 57 dL_fails_56 0 rfl rfl ?_
      refine gw_iconst C 58 dL_fails_57 (v := 1) (by decide) rfl ?_
      refine gw_iconst C 59 dL_fails_58 (v := 0) (by decide) rfl ?_
      refine gw_cVi C 62 dL_fails_59 rfl yv_X5_addClerk lk_L_38 [.int (1 : Int32), .int (0 : Int32)] [] rfl (ct_X5_addClerk (E := E) (l := ps_l X) (1 : Int32) (0 : Int32) ((fv_X5_addClerk (61 : Int32) (1 : Int32) M).2) ((hk.1 c41).2.1 c53).1) rc_P rfl (Nat.le_of_ble_eq_true rfl) (Nat.le_of_ble_eq_true rfl) (Nat.le_of_ble_eq_true rfl) ?_
      refine gw_bipush C 64 dL_fails_62 (v := (-2)) (by decide) rfl ?_
      refine gw_ic_ne C 258 67 dL_fails_64 (by decide) rfl (fun c64 => ?_) (fun c64 => ?_)
      · refine gw_aload_n C 68 dL_fails_67 0 rfl rfl ?_
        refine gw_iconst C 69 dL_fails_68 (v := 1) (by decide) rfl ?_
        refine gw_bipush C 71 dL_fails_69 (v := 7) (by decide) rfl ?_
        refine gw_cVi C 74 dL_fails_71 rfl yv_X5_addClerk lk_L_38 [.int (1 : Int32), .int (7 : Int32)] [] rfl (ct_X5_addClerk (E := E) (l := ps_l X) (1 : Int32) (7 : Int32) ((fv_X5_addClerk (1 : Int32) (0 : Int32) ((fv_X5_addClerk (61 : Int32) (1 : Int32) M).2)).2) (((hk.1 c41).2.1 c53).2.1 c64).1) rc_P rfl (Nat.le_of_ble_eq_true rfl) (Nat.le_of_ble_eq_true rfl) (Nat.le_of_ble_eq_true rfl) ?_
        refine gw_bipush C 76 dL_fails_74 (v := (-2)) (by decide) rfl ?_
        refine gw_ic_ne C 258 79 dL_fails_76 (by decide) rfl (fun c76 => ?_) (fun c76 => ?_)
        · refine gw_aload_n C 80 dL_fails_79 0 rfl rfl ?_
          refine gw_iload C 82 dL_fails_80 3 rfl rfl ?_
          refine gw_bipush C 84 dL_fails_82 (v := 14) (by decide) rfl ?_
          refine gw_iconst C 85 dL_fails_84 (v := 1) (by decide) rfl ?_
          refine gw_cVi C 88 dL_fails_85 rfl yv_X5_setArrivals lk_L_41 [.int x4, .int (14 : Int32), .int (1 : Int32)] [] rfl (ct_X5_setArrivals (E := E) (l := ps_l X) x4 (14 : Int32) (1 : Int32) ((fv_X5_addClerk (1 : Int32) (7 : Int32) ((fv_X5_addClerk (1 : Int32) (0 : Int32) ((fv_X5_addClerk (61 : Int32) (1 : Int32) M).2)).2)).2) ((((hk.1 c41).2.1 c53).2.1 c64).2.1 c76).1) rc_P rfl (Nat.le_of_ble_eq_true rfl) (Nat.le_of_ble_eq_true rfl) (Nat.le_of_ble_eq_true rfl) ?_
          exact bw_L_fails_88 C RT  x1 x3 x4 x5 x6 ((fv_X5_setArrivals x4 (14 : Int32) (1 : Int32) ((fv_X5_addClerk (1 : Int32) (7 : Int32) ((fv_X5_addClerk (1 : Int32) (0 : Int32) ((fv_X5_addClerk (61 : Int32) (1 : Int32) M).2)).2)).2)).1) ((fv_X5_setArrivals x4 (14 : Int32) (1 : Int32) ((fv_X5_addClerk (1 : Int32) (7 : Int32) ((fv_X5_addClerk (1 : Int32) (0 : Int32) ((fv_X5_addClerk (61 : Int32) (1 : Int32) M).2)).2)).2)).2) ((((hk.1 c41).2.1 c53).2.1 c64).2.1 c76).2
        · exact bw_L_fails_258 C RT  x1 x3 x4 x5 x6 ((fv_X5_addClerk (1 : Int32) (7 : Int32) ((fv_X5_addClerk (1 : Int32) (0 : Int32) ((fv_X5_addClerk (61 : Int32) (1 : Int32) M).2)).2)).2) ((((hk.1 c41).2.1 c53).2.1 c64).2.2 c76)
      · exact bw_L_fails_258 C RT  x1 x3 x4 x5 x6 ((fv_X5_addClerk (1 : Int32) (0 : Int32) ((fv_X5_addClerk (61 : Int32) (1 : Int32) M).2)).2) (((hk.1 c41).2.1 c53).2.2 c64)
    · exact bw_L_fails_258 C RT  x1 x3 x4 x5 x6 ((fv_X5_addClerk (61 : Int32) (1 : Int32) M).2) ((hk.1 c41).2.2 c53)
  · exact bw_L_fails_258 C RT  x1 x3 x4 x5 x6 M (hk.2 c41)
def fv_L_fails  (M : ps_M) : Int32 × ps_M := fv_L_fails_39 ((fv_L_mark M).1) ((fv_X5_count (14 : Int32) ((fv_L_mark M).2)).1) ((fv_X5_count (1 : Int32) ((fv_X5_count (14 : Int32) ((fv_L_mark M).2)).2)).1) ((fv_X5_count (2 : Int32) ((fv_X5_count (1 : Int32) ((fv_X5_count (14 : Int32) ((fv_L_mark M).2)).2)).2)).1) ((fv_X5_count (0 : Int32) ((fv_X5_count (2 : Int32) ((fv_X5_count (1 : Int32) ((fv_X5_count (14 : Int32) ((fv_L_mark M).2)).2)).2)).2)).1) ((fv_X5_addClerk (0 : Int32) (1 : Int32) ((fv_X5_count (0 : Int32) ((fv_X5_count (2 : Int32) ((fv_X5_count (1 : Int32) ((fv_X5_count (14 : Int32) ((fv_L_mark M).2)).2)).2)).2)).2)).1) ((fv_X5_addClerk (0 : Int32) (1 : Int32) ((fv_X5_count (0 : Int32) ((fv_X5_count (2 : Int32) ((fv_X5_count (1 : Int32) ((fv_X5_count (14 : Int32) ((fv_L_mark M).2)).2)).2)).2)).2)).2)
def ok_L_fails  (M : ps_M) : Prop := (ok_L_mark M) ∧ ((ok_X5_count (14 : Int32) ((fv_L_mark M).2)) ∧ ((ok_X5_count (1 : Int32) ((fv_X5_count (14 : Int32) ((fv_L_mark M).2)).2)) ∧ ((ok_X5_count (2 : Int32) ((fv_X5_count (1 : Int32) ((fv_X5_count (14 : Int32) ((fv_L_mark M).2)).2)).2)) ∧ ((ok_X5_count (0 : Int32) ((fv_X5_count (2 : Int32) ((fv_X5_count (1 : Int32) ((fv_X5_count (14 : Int32) ((fv_L_mark M).2)).2)).2)).2)) ∧ ((ok_X5_addClerk (0 : Int32) (1 : Int32) ((fv_X5_count (0 : Int32) ((fv_X5_count (2 : Int32) ((fv_X5_count (1 : Int32) ((fv_X5_count (14 : Int32) ((fv_L_mark M).2)).2)).2)).2)).2)) ∧ (ok_L_fails_39 ((fv_L_mark M).1) ((fv_X5_count (14 : Int32) ((fv_L_mark M).2)).1) ((fv_X5_count (1 : Int32) ((fv_X5_count (14 : Int32) ((fv_L_mark M).2)).2)).1) ((fv_X5_count (2 : Int32) ((fv_X5_count (1 : Int32) ((fv_X5_count (14 : Int32) ((fv_L_mark M).2)).2)).2)).1) ((fv_X5_count (0 : Int32) ((fv_X5_count (2 : Int32) ((fv_X5_count (1 : Int32) ((fv_X5_count (14 : Int32) ((fv_L_mark M).2)).2)).2)).2)).1) ((fv_X5_addClerk (0 : Int32) (1 : Int32) ((fv_X5_count (0 : Int32) ((fv_X5_count (2 : Int32) ((fv_X5_count (1 : Int32) ((fv_X5_count (14 : Int32) ((fv_L_mark M).2)).2)).2)).2)).2)).1) ((fv_X5_addClerk (0 : Int32) (1 : Int32) ((fv_X5_count (0 : Int32) ((fv_X5_count (2 : Int32) ((fv_X5_count (1 : Int32) ((fv_X5_count (14 : Int32) ((fv_L_mark M).2)).2)).2)).2)).2)).2)))))))
set_option maxRecDepth 100000 in
set_option maxHeartbeats 4000000 in
theorem bw_L_fails {E : ps_E} {X : ps_X (Int32 × ps_M)} (C : ps_C (ps_Yc E) X cL_fails RL (some .boolean) 6 131 8) (RT : ps_RI (ps_Yc E) X cL_fails .boolean)  (M : ps_M) (hk : ok_L_fails  M) : ps_G (ps_Yc E) X (fv_L_fails  M) 0 [(0, .ref (ps_ad E 0))] [] M := by
  unfold fv_L_fails
  unfold ok_L_fails at hk
  refine gw_aload_n C 1 dL_fails_0 0 rfl rfl ?_
  refine gw_cSl C 4 dL_fails_1 rfl yv_L_mark lk_L_32 [.ref (ps_ad E 0)] [] rfl (ct_L_mark (E := E) (l := ps_l X) M hk.1) rfl (Nat.le_of_ble_eq_true rfl) (Nat.le_of_ble_eq_true rfl) (Nat.le_of_ble_eq_true rfl) ?_
  refine gw_lstore_n C 5 dL_fails_4 rfl [(0, .ref (ps_ad E 0)), (1, .long ((fv_L_mark M).1))] [1, 0] (by decide) rfl ?_
  refine gw_aload_n C 6 dL_fails_5 0 rfl rfl ?_
  refine gw_bipush C 8 dL_fails_6 (v := 14) (by decide) rfl ?_
  refine gw_cVi C 11 dL_fails_8 rfl yv_X5_count lk_L_13 [.int (14 : Int32)] [] rfl (ct_X5_count (E := E) (l := ps_l X) (14 : Int32) ((fv_L_mark M).2) hk.2.1) rc_P rfl (Nat.le_of_ble_eq_true rfl) (Nat.le_of_ble_eq_true rfl) (Nat.le_of_ble_eq_true rfl) ?_
  refine gw_istore_n C 12 dL_fails_11 rfl [(0, .ref (ps_ad E 0)), (1, .long ((fv_L_mark M).1)), (3, .int ((fv_X5_count (14 : Int32) ((fv_L_mark M).2)).1))] [1, 2, 0] (by decide) rfl ?_
  refine gw_aload_n C 13 dL_fails_12 0 rfl rfl ?_
  refine gw_iconst C 14 dL_fails_13 (v := 1) (by decide) rfl ?_
  refine gw_cVi C 17 dL_fails_14 rfl yv_X5_count lk_L_13 [.int (1 : Int32)] [] rfl (ct_X5_count (E := E) (l := ps_l X) (1 : Int32) ((fv_X5_count (14 : Int32) ((fv_L_mark M).2)).2) hk.2.2.1) rc_P rfl (Nat.le_of_ble_eq_true rfl) (Nat.le_of_ble_eq_true rfl) (Nat.le_of_ble_eq_true rfl) ?_
  refine gw_istore C 19 dL_fails_17 rfl [(0, .ref (ps_ad E 0)), (1, .long ((fv_L_mark M).1)), (3, .int ((fv_X5_count (14 : Int32) ((fv_L_mark M).2)).1)), (4, .int ((fv_X5_count (1 : Int32) ((fv_X5_count (14 : Int32) ((fv_L_mark M).2)).2)).1))] [1, 2, 3, 0] (by decide) rfl ?_
  refine gw_aload_n C 20 dL_fails_19 0 rfl rfl ?_
  refine gw_iconst C 21 dL_fails_20 (v := 2) (by decide) rfl ?_
  refine gw_cVi C 24 dL_fails_21 rfl yv_X5_count lk_L_13 [.int (2 : Int32)] [] rfl (ct_X5_count (E := E) (l := ps_l X) (2 : Int32) ((fv_X5_count (1 : Int32) ((fv_X5_count (14 : Int32) ((fv_L_mark M).2)).2)).2) hk.2.2.2.1) rc_P rfl (Nat.le_of_ble_eq_true rfl) (Nat.le_of_ble_eq_true rfl) (Nat.le_of_ble_eq_true rfl) ?_
  refine gw_istore C 26 dL_fails_24 rfl [(0, .ref (ps_ad E 0)), (1, .long ((fv_L_mark M).1)), (3, .int ((fv_X5_count (14 : Int32) ((fv_L_mark M).2)).1)), (4, .int ((fv_X5_count (1 : Int32) ((fv_X5_count (14 : Int32) ((fv_L_mark M).2)).2)).1)), (5, .int ((fv_X5_count (2 : Int32) ((fv_X5_count (1 : Int32) ((fv_X5_count (14 : Int32) ((fv_L_mark M).2)).2)).2)).1))] [1, 2, 3, 4, 0] (by decide) rfl ?_
  refine gw_aload_n C 27 dL_fails_26 0 rfl rfl ?_
  refine gw_iconst C 28 dL_fails_27 (v := 0) (by decide) rfl ?_
  refine gw_cVi C 31 dL_fails_28 rfl yv_X5_count lk_L_13 [.int (0 : Int32)] [] rfl (ct_X5_count (E := E) (l := ps_l X) (0 : Int32) ((fv_X5_count (2 : Int32) ((fv_X5_count (1 : Int32) ((fv_X5_count (14 : Int32) ((fv_L_mark M).2)).2)).2)).2) hk.2.2.2.2.1) rc_P rfl (Nat.le_of_ble_eq_true rfl) (Nat.le_of_ble_eq_true rfl) (Nat.le_of_ble_eq_true rfl) ?_
  refine gw_istore C 33 dL_fails_31 rfl [(0, .ref (ps_ad E 0)), (1, .long ((fv_L_mark M).1)), (3, .int ((fv_X5_count (14 : Int32) ((fv_L_mark M).2)).1)), (4, .int ((fv_X5_count (1 : Int32) ((fv_X5_count (14 : Int32) ((fv_L_mark M).2)).2)).1)), (5, .int ((fv_X5_count (2 : Int32) ((fv_X5_count (1 : Int32) ((fv_X5_count (14 : Int32) ((fv_L_mark M).2)).2)).2)).1)), (6, .int ((fv_X5_count (0 : Int32) ((fv_X5_count (2 : Int32) ((fv_X5_count (1 : Int32) ((fv_X5_count (14 : Int32) ((fv_L_mark M).2)).2)).2)).2)).1))] [1, 2, 3, 4, 5, 0] (by decide) rfl ?_
  refine gw_aload_n C 34 dL_fails_33 0 rfl rfl ?_
  refine gw_iconst C 35 dL_fails_34 (v := 0) (by decide) rfl ?_
  refine gw_iconst C 36 dL_fails_35 (v := 1) (by decide) rfl ?_
  refine gw_cVi C 39 dL_fails_36 rfl yv_X5_addClerk lk_L_38 [.int (0 : Int32), .int (1 : Int32)] [] rfl (ct_X5_addClerk (E := E) (l := ps_l X) (0 : Int32) (1 : Int32) ((fv_X5_count (0 : Int32) ((fv_X5_count (2 : Int32) ((fv_X5_count (1 : Int32) ((fv_X5_count (14 : Int32) ((fv_L_mark M).2)).2)).2)).2)).2) hk.2.2.2.2.2.1) rc_P rfl (Nat.le_of_ble_eq_true rfl) (Nat.le_of_ble_eq_true rfl) (Nat.le_of_ble_eq_true rfl) ?_
  exact bw_L_fails_39 C RT  ((fv_L_mark M).1) ((fv_X5_count (14 : Int32) ((fv_L_mark M).2)).1) ((fv_X5_count (1 : Int32) ((fv_X5_count (14 : Int32) ((fv_L_mark M).2)).2)).1) ((fv_X5_count (2 : Int32) ((fv_X5_count (1 : Int32) ((fv_X5_count (14 : Int32) ((fv_L_mark M).2)).2)).2)).1) ((fv_X5_count (0 : Int32) ((fv_X5_count (2 : Int32) ((fv_X5_count (1 : Int32) ((fv_X5_count (14 : Int32) ((fv_L_mark M).2)).2)).2)).2)).1) ((fv_X5_addClerk (0 : Int32) (1 : Int32) ((fv_X5_count (0 : Int32) ((fv_X5_count (2 : Int32) ((fv_X5_count (1 : Int32) ((fv_X5_count (14 : Int32) ((fv_L_mark M).2)).2)).2)).2)).2)).1) ((fv_X5_addClerk (0 : Int32) (1 : Int32) ((fv_X5_count (0 : Int32) ((fv_X5_count (2 : Int32) ((fv_X5_count (1 : Int32) ((fv_X5_count (14 : Int32) ((fv_L_mark M).2)).2)).2)).2)).2)).2) hk.2.2.2.2.2.2
theorem ct_L_fails {E : ps_E} {l : Launch}   (M : ps_M) (hk : ok_L_fails  M) : ps_CI (ps_Yc E) l yL_fails cL_fails 8 (some .boolean) 6 131 [.ref (ps_ad E 0)] M (fv_L_fails  M) := ps_metI RL (by decide) rfl (Nat.le_of_ble_eq_true rfl) rfl (fun X _ C RT => bw_L_fails C RT M hk)
