def fv_L_up (x0 : Int32) (x1 : Int32) (M : ps_M) : Int32 := ((x0 &&& (2147483647 : Int32)) - (x0 &&& (2147483647 : Int32)) / x1 * x1)
def ok_L_up (x0 : Int32) (x1 : Int32) (M : ps_M) : Prop := (¬ x1 = 0) ∧ True
set_option maxRecDepth 100000 in
set_option maxHeartbeats 4000000 in
theorem bw_L_up {E : ps_E} {X : ps_X (Int32 × ps_M)} (C : ps_C (ps_Yc E) X cL_up RL (some .int) 0 0 2) (RT : ps_RI (ps_Yc E) X cL_up .int) (M : ps_M) (x0 : Int32) (x1 : Int32) (hk : ok_L_up x0 x1 M) : ps_G (ps_Yc E) X (fv_L_up x0 x1 M, M) 0 [(0, .int x0), (1, .int x1)] [] M := by
  unfold fv_L_up
  unfold ok_L_up at hk
  refine gw_iload_n C 1 dL_up_0 0 rfl rfl ?_
  refine gw_ldc C 3 dL_up_1 lk_L_8 rfl ?_
  refine gw_iand C 4 dL_up_3 rfl ?_
  refine gw_iload_n C 5 dL_up_4 1 rfl rfl ?_
  refine gw_irem C 6 dL_up_5 hk.1 rfl ?_
  exact RT _ _ _ _ dL_up_6 rfl
theorem ct_L_up {E : ps_E} {l : Launch} (x0 : Int32) (x1 : Int32)  (M : ps_M) (hk : ok_L_up x0 x1 M) : ps_CI (ps_Yc E) l yL_up cL_up 2 (some .int) 0 0 [.int x0, .int x1] M (fv_L_up x0 x1 M, M) := ps_metI RL (by decide) rfl (Nat.le_of_ble_eq_true rfl) rfl (fun X _ C RT => bw_L_up C RT M x0 x1 hk)
def fv_L_mark_152 (rec140 : Int64 → Int32 → ps_M → Int64 × ps_M) : Nat → Int64 → Int32 → Int32 → ps_M → Int64 × ps_M
  | 0, _, _, _, M => (0, M)
  | n + 1, x1, x3, x4, M => if (7 : Int32) ≤ x4 then (rec140 x1 (x3 + (1 : Int32)) M) else (fv_L_mark_152 rec140 n (((31 : Int64) * x1) + ((fv_X5_clerk x3 x4 M)).toInt64) x3 (x4 + (1 : Int32)) M)
theorem fv_L_mark_152_s (rec140 : Int64 → Int32 → ps_M → Int64 × ps_M) (n : Nat) (x1 : Int64) (x3 : Int32) (x4 : Int32) (M : ps_M) : fv_L_mark_152 rec140 (n + 1) x1 x3 x4 M = (if (7 : Int32) ≤ x4 then (rec140 x1 (x3 + (1 : Int32)) M) else (fv_L_mark_152 rec140 n (((31 : Int64) * x1) + ((fv_X5_clerk x3 x4 M)).toInt64) x3 (x4 + (1 : Int32)) M)) := rfl
def ok_L_mark_152 (rec140 : Int64 → Int32 → ps_M → Int64 × ps_M) (okr140 : Int64 → Int32 → ps_M → Prop) : Nat → Int64 → Int32 → Int32 → ps_M → Prop
  | 0, _, _, _, _ => False
  | n + 1, x1, x3, x4, M => ((7 : Int32) ≤ x4 → (okr140 x1 (x3 + (1 : Int32)) M)) ∧ (¬ ((7 : Int32) ≤ x4) → ((ok_X5_clerk x3 x4 M) ∧ (ok_L_mark_152 rec140 okr140 n (((31 : Int64) * x1) + ((fv_X5_clerk x3 x4 M)).toInt64) x3 (x4 + (1 : Int32)) M)))
theorem ok_L_mark_152_s (rec140 : Int64 → Int32 → ps_M → Int64 × ps_M) (okr140 : Int64 → Int32 → ps_M → Prop) (n : Nat) (x1 : Int64) (x3 : Int32) (x4 : Int32) (M : ps_M) : ok_L_mark_152 rec140 okr140 (n + 1) x1 x3 x4 M = (((7 : Int32) ≤ x4 → (okr140 x1 (x3 + (1 : Int32)) M)) ∧ (¬ ((7 : Int32) ≤ x4) → ((ok_X5_clerk x3 x4 M) ∧ (ok_L_mark_152 rec140 okr140 n (((31 : Int64) * x1) + ((fv_X5_clerk x3 x4 M)).toInt64) x3 (x4 + (1 : Int32)) M)))) := rfl
set_option maxRecDepth 100000 in
set_option maxHeartbeats 4000000 in
theorem bw_L_mark_152 {E : ps_E} {X : ps_X (Int64 × ps_M)} (C : ps_C (ps_Yc E) X cL_mark RL (some .long) 4 86 5) (RT : ps_RJ (ps_Yc E) X cL_mark) (rec140 : Int64 → Int32 → ps_M → Int64 × ps_M) (okr140 : Int64 → Int32 → ps_M → Prop) (hr140 : ∀ (x1 : Int64) (x3 : Int32)  (M : ps_M), okr140 x1 x3 M → ps_G (ps_Yc E) X (rec140 x1 x3 M) 140 [(0, .ref (ps_ad E 0)), (1, .long x1), (3, .int x3)] [] M) : ∀ (n : Nat) (x1 : Int64) (x3 : Int32) (x4 : Int32) (M : ps_M), ok_L_mark_152 rec140 okr140 n x1 x3 x4 M → ps_G (ps_Yc E) X (fv_L_mark_152 rec140 n x1 x3 x4 M) 152 [(0, .ref (ps_ad E 0)), (1, .long x1), (3, .int x3), (4, .int x4)] [] M := by
  intro n
  induction n with
  | zero => intro x1 x3 x4 M h; exact h.elim
  | succ n ih =>
    intro x1 x3 x4 M hk
    rw [fv_L_mark_152_s]
    rw [ok_L_mark_152_s] at hk
    refine gw_iload C 154 dL_mark_152 3 rfl rfl ?_
    refine gw_bipush C 156 dL_mark_154 (v := 7) (by decide) rfl ?_
    refine gw_ic_ge C 180 159 dL_mark_156 (by decide) rfl (fun c156 => ?_) (fun c156 => ?_)
    · refine gw_iinc C 183 dL_mark_180 rfl (y := 1) (by decide) rfl 2 rfl [(0, .ref (ps_ad E 0)), (1, .long x1), (3, .int (x3 + (1 : Int32))), (4, .int x4)] [1, 2, 0, 3] (by decide) rfl ?_
      refine gw_goto C 140 dL_mark_183 (by decide) ?_
      refine gw_sub C [(0, .ref (ps_ad E 0)), (1, .long x1), (3, .int (x3 + (1 : Int32)))] [0, 1, 2] rfl ?_
      exact hr140 x1 (x3 + (1 : Int32)) M (hk.1 c156)
    · refine gw_ldc2 C 162 dL_mark_159 lk_L_11 rfl ?_
      refine gw_lload_n C 163 dL_mark_162 1 rfl rfl ?_
      refine gw_lmul C 164 dL_mark_163 rfl ?_
      refine gw_aload_n C 165 dL_mark_164 0 rfl rfl ?_
      refine gw_iload_n C 166 dL_mark_165 2 rfl rfl ?_
      refine gw_iload C 168 dL_mark_166 3 rfl rfl ?_
      refine gw_cVp C 171 dL_mark_168 rfl yv_X5_clerk lk_L_29 [.int x3, .int x4] [.long ((31 : Int64) * x1)] rfl (ct_X5_clerk (E := E) (l := ps_l X) x3 x4 M (hk.2 c156).1) rc_P rfl (Nat.le_of_ble_eq_true rfl) (Nat.le_of_ble_eq_true rfl) (Nat.le_of_ble_eq_true rfl) ?_
      refine gw_i2l C 172 dL_mark_171 rfl ?_
      refine gw_ladd C 173 dL_mark_172 rfl ?_
      refine gw_lstore_n C 174 dL_mark_173 rfl [(0, .ref (ps_ad E 0)), (1, .long (((31 : Int64) * x1) + ((fv_X5_clerk x3 x4 M)).toInt64)), (3, .int x3), (4, .int x4)] [1, 0, 2, 3] (by decide) rfl ?_
      refine gw_iinc C 177 dL_mark_174 rfl (y := 1) (by decide) rfl 3 rfl [(0, .ref (ps_ad E 0)), (1, .long (((31 : Int64) * x1) + ((fv_X5_clerk x3 x4 M)).toInt64)), (3, .int x3), (4, .int (x4 + (1 : Int32)))] [1, 2, 3, 0] (by decide) rfl ?_
      refine gw_goto C 152 dL_mark_177 (by decide) ?_
      exact ih (((31 : Int64) * x1) + ((fv_X5_clerk x3 x4 M)).toInt64) x3 (x4 + (1 : Int32)) M (hk.2 c156).2
def fv_L_mark_140 : Nat → Int64 → Int32 → ps_M → Int64 × ps_M
  | 0, _, _, M => (0, M)
  | n + 1, x1, x3, M => if (fv_X5_count (2 : Int32) M).1 ≤ x3 then ((x1, (fv_X5_count (2 : Int32) M).2)) else (fv_L_mark_152 (fun a1 a3 M => fv_L_mark_140 n a1 a3 M) ps_FU x1 x3 (0 : Int32) ((fv_X5_count (2 : Int32) M).2))
theorem fv_L_mark_140_s (n : Nat) (x1 : Int64) (x3 : Int32) (M : ps_M) : fv_L_mark_140 (n + 1) x1 x3 M = (if (fv_X5_count (2 : Int32) M).1 ≤ x3 then ((x1, (fv_X5_count (2 : Int32) M).2)) else (fv_L_mark_152 (fun a1 a3 M => fv_L_mark_140 n a1 a3 M) ps_FU x1 x3 (0 : Int32) ((fv_X5_count (2 : Int32) M).2))) := rfl
def ok_L_mark_140 : Nat → Int64 → Int32 → ps_M → Prop
  | 0, _, _, _ => False
  | n + 1, x1, x3, M => (ok_X5_count (2 : Int32) M) ∧ (((fv_X5_count (2 : Int32) M).1 ≤ x3 → True) ∧ (¬ ((fv_X5_count (2 : Int32) M).1 ≤ x3) → (ok_L_mark_152 (fun a1 a3 M => fv_L_mark_140 n a1 a3 M) (fun a1 a3 M => ok_L_mark_140 n a1 a3 M) ps_FU x1 x3 (0 : Int32) ((fv_X5_count (2 : Int32) M).2))))
theorem ok_L_mark_140_s (n : Nat) (x1 : Int64) (x3 : Int32) (M : ps_M) : ok_L_mark_140 (n + 1) x1 x3 M = ((ok_X5_count (2 : Int32) M) ∧ (((fv_X5_count (2 : Int32) M).1 ≤ x3 → True) ∧ (¬ ((fv_X5_count (2 : Int32) M).1 ≤ x3) → (ok_L_mark_152 (fun a1 a3 M => fv_L_mark_140 n a1 a3 M) (fun a1 a3 M => ok_L_mark_140 n a1 a3 M) ps_FU x1 x3 (0 : Int32) ((fv_X5_count (2 : Int32) M).2))))) := rfl
set_option maxRecDepth 100000 in
set_option maxHeartbeats 4000000 in
theorem bw_L_mark_140 {E : ps_E} {X : ps_X (Int64 × ps_M)} (C : ps_C (ps_Yc E) X cL_mark RL (some .long) 4 86 5) (RT : ps_RJ (ps_Yc E) X cL_mark) : ∀ (n : Nat) (x1 : Int64) (x3 : Int32) (M : ps_M), ok_L_mark_140 n x1 x3 M → ps_G (ps_Yc E) X (fv_L_mark_140 n x1 x3 M) 140 [(0, .ref (ps_ad E 0)), (1, .long x1), (3, .int x3)] [] M := by
  intro n
  induction n with
  | zero => intro x1 x3 M h; exact h.elim
  | succ n ih =>
    intro x1 x3 M hk
    rw [fv_L_mark_140_s]
    rw [ok_L_mark_140_s] at hk
    refine gw_iload_n C 141 dL_mark_140 2 rfl rfl ?_
    refine gw_aload_n C 142 dL_mark_141 0 rfl rfl ?_
    refine gw_iconst C 143 dL_mark_142 (v := 2) (by decide) rfl ?_
    refine gw_cVi C 146 dL_mark_143 rfl yv_X5_count lk_L_13 [.int (2 : Int32)] [.int x3] rfl (ct_X5_count (E := E) (l := ps_l X) (2 : Int32) M hk.1) rc_P rfl (Nat.le_of_ble_eq_true rfl) (Nat.le_of_ble_eq_true rfl) (Nat.le_of_ble_eq_true rfl) ?_
    refine gw_ic_ge C 186 149 dL_mark_146 (by decide) rfl (fun c146 => ?_) (fun c146 => ?_)
    · refine gw_lload_n C 187 dL_mark_186 1 rfl rfl ?_
      exact RT _ _ _ _ dL_mark_187
    · refine gw_iconst C 150 dL_mark_149 (v := 0) (by decide) rfl ?_
      refine gw_istore C 152 dL_mark_150 rfl [(0, .ref (ps_ad E 0)), (1, .long x1), (3, .int x3), (4, .int (0 : Int32))] [1, 2, 3, 0] (by decide) rfl ?_
      exact bw_L_mark_152 C RT _ _ (fun a1 a3  M h => ih a1 a3  M h) ps_FU x1 x3 (0 : Int32) ((fv_X5_count (2 : Int32) M).2) (hk.2.2 c146)
def fv_L_mark_104 (rec33 : Int64 → Int32 → ps_M → Int64 × ps_M) : Nat → Int64 → Int32 → Int32 → ps_M → Int64 × ps_M
  | 0, _, _, _, M => (0, M)
  | n + 1, x1, x3, x4, M => if (15 : Int32) ≤ x4 then (rec33 x1 (x3 + (1 : Int32)) M) else (fv_L_mark_104 rec33 n (((31 : Int64) * x1) + ((fv_X5_arrivals x3 x4 M)).toInt64) x3 (x4 + (1 : Int32)) M)
theorem fv_L_mark_104_s (rec33 : Int64 → Int32 → ps_M → Int64 × ps_M) (n : Nat) (x1 : Int64) (x3 : Int32) (x4 : Int32) (M : ps_M) : fv_L_mark_104 rec33 (n + 1) x1 x3 x4 M = (if (15 : Int32) ≤ x4 then (rec33 x1 (x3 + (1 : Int32)) M) else (fv_L_mark_104 rec33 n (((31 : Int64) * x1) + ((fv_X5_arrivals x3 x4 M)).toInt64) x3 (x4 + (1 : Int32)) M)) := rfl
def ok_L_mark_104 (rec33 : Int64 → Int32 → ps_M → Int64 × ps_M) (okr33 : Int64 → Int32 → ps_M → Prop) : Nat → Int64 → Int32 → Int32 → ps_M → Prop
  | 0, _, _, _, _ => False
  | n + 1, x1, x3, x4, M => ((15 : Int32) ≤ x4 → (okr33 x1 (x3 + (1 : Int32)) M)) ∧ (¬ ((15 : Int32) ≤ x4) → ((ok_X5_arrivals x3 x4 M) ∧ (ok_L_mark_104 rec33 okr33 n (((31 : Int64) * x1) + ((fv_X5_arrivals x3 x4 M)).toInt64) x3 (x4 + (1 : Int32)) M)))
theorem ok_L_mark_104_s (rec33 : Int64 → Int32 → ps_M → Int64 × ps_M) (okr33 : Int64 → Int32 → ps_M → Prop) (n : Nat) (x1 : Int64) (x3 : Int32) (x4 : Int32) (M : ps_M) : ok_L_mark_104 rec33 okr33 (n + 1) x1 x3 x4 M = (((15 : Int32) ≤ x4 → (okr33 x1 (x3 + (1 : Int32)) M)) ∧ (¬ ((15 : Int32) ≤ x4) → ((ok_X5_arrivals x3 x4 M) ∧ (ok_L_mark_104 rec33 okr33 n (((31 : Int64) * x1) + ((fv_X5_arrivals x3 x4 M)).toInt64) x3 (x4 + (1 : Int32)) M)))) := rfl
set_option maxRecDepth 100000 in
set_option maxHeartbeats 4000000 in
theorem bw_L_mark_104 {E : ps_E} {X : ps_X (Int64 × ps_M)} (C : ps_C (ps_Yc E) X cL_mark RL (some .long) 4 86 5) (RT : ps_RJ (ps_Yc E) X cL_mark) (rec33 : Int64 → Int32 → ps_M → Int64 × ps_M) (okr33 : Int64 → Int32 → ps_M → Prop) (hr33 : ∀ (x1 : Int64) (x3 : Int32)  (M : ps_M), okr33 x1 x3 M → ps_G (ps_Yc E) X (rec33 x1 x3 M) 33 [(0, .ref (ps_ad E 0)), (1, .long x1), (3, .int x3)] [] M) : ∀ (n : Nat) (x1 : Int64) (x3 : Int32) (x4 : Int32) (M : ps_M), ok_L_mark_104 rec33 okr33 n x1 x3 x4 M → ps_G (ps_Yc E) X (fv_L_mark_104 rec33 n x1 x3 x4 M) 104 [(0, .ref (ps_ad E 0)), (1, .long x1), (3, .int x3), (4, .int x4)] [] M := by
  intro n
  induction n with
  | zero => intro x1 x3 x4 M h; exact h.elim
  | succ n ih =>
    intro x1 x3 x4 M hk
    rw [fv_L_mark_104_s]
    rw [ok_L_mark_104_s] at hk
    refine gw_iload C 106 dL_mark_104 3 rfl rfl ?_
    refine gw_bipush C 108 dL_mark_106 (v := 15) (by decide) rfl ?_
    refine gw_ic_ge C 132 111 dL_mark_108 (by decide) rfl (fun c108 => ?_) (fun c108 => ?_)
    · refine gw_iinc C 135 dL_mark_132 rfl (y := 1) (by decide) rfl 2 rfl [(0, .ref (ps_ad E 0)), (1, .long x1), (3, .int (x3 + (1 : Int32))), (4, .int x4)] [1, 2, 0, 3] (by decide) rfl ?_
      refine gw_goto C 33 dL_mark_135 (by decide) ?_
      refine gw_sub C [(0, .ref (ps_ad E 0)), (1, .long x1), (3, .int (x3 + (1 : Int32)))] [0, 1, 2] rfl ?_
      exact hr33 x1 (x3 + (1 : Int32)) M (hk.1 c108)
    · refine gw_ldc2 C 114 dL_mark_111 lk_L_11 rfl ?_
      refine gw_lload_n C 115 dL_mark_114 1 rfl rfl ?_
      refine gw_lmul C 116 dL_mark_115 rfl ?_
      refine gw_aload_n C 117 dL_mark_116 0 rfl rfl ?_
      refine gw_iload_n C 118 dL_mark_117 2 rfl rfl ?_
      refine gw_iload C 120 dL_mark_118 3 rfl rfl ?_
      refine gw_cVp C 123 dL_mark_120 rfl yv_X5_arrivals lk_L_26 [.int x3, .int x4] [.long ((31 : Int64) * x1)] rfl (ct_X5_arrivals (E := E) (l := ps_l X) x3 x4 M (hk.2 c108).1) rc_P rfl (Nat.le_of_ble_eq_true rfl) (Nat.le_of_ble_eq_true rfl) (Nat.le_of_ble_eq_true rfl) ?_
      refine gw_i2l C 124 dL_mark_123 rfl ?_
      refine gw_ladd C 125 dL_mark_124 rfl ?_
      refine gw_lstore_n C 126 dL_mark_125 rfl [(0, .ref (ps_ad E 0)), (1, .long (((31 : Int64) * x1) + ((fv_X5_arrivals x3 x4 M)).toInt64)), (3, .int x3), (4, .int x4)] [1, 0, 2, 3] (by decide) rfl ?_
      refine gw_iinc C 129 dL_mark_126 rfl (y := 1) (by decide) rfl 3 rfl [(0, .ref (ps_ad E 0)), (1, .long (((31 : Int64) * x1) + ((fv_X5_arrivals x3 x4 M)).toInt64)), (3, .int x3), (4, .int (x4 + (1 : Int32)))] [1, 2, 3, 0] (by decide) rfl ?_
      refine gw_goto C 104 dL_mark_129 (by decide) ?_
      exact ih (((31 : Int64) * x1) + ((fv_X5_arrivals x3 x4 M)).toInt64) x3 (x4 + (1 : Int32)) M (hk.2 c108).2
def fv_L_mark_45 (rec33 : Int64 → Int32 → ps_M → Int64 × ps_M) : Nat → Int64 → Int32 → Int32 → ps_M → Int64 × ps_M
  | 0, _, _, _, M => (0, M)
  | n + 1, x1, x3, x4, M => if (8 : Int32) ≤ x4 then (fv_L_mark_104 rec33 ps_FU (((31 : Int64) * x1) + ((fv_X5_papers x3 (8 : Int32) M)).toInt64) x3 (0 : Int32) M) else (fv_L_mark_45 rec33 n (((31 : Int64) * (((31 : Int64) * x1) + ((fv_X5_station x3 x4 M)).toInt64)) + ((fv_X5_papers x3 x4 M)).toInt64) x3 (x4 + (1 : Int32)) M)
theorem fv_L_mark_45_s (rec33 : Int64 → Int32 → ps_M → Int64 × ps_M) (n : Nat) (x1 : Int64) (x3 : Int32) (x4 : Int32) (M : ps_M) : fv_L_mark_45 rec33 (n + 1) x1 x3 x4 M = (if (8 : Int32) ≤ x4 then (fv_L_mark_104 rec33 ps_FU (((31 : Int64) * x1) + ((fv_X5_papers x3 (8 : Int32) M)).toInt64) x3 (0 : Int32) M) else (fv_L_mark_45 rec33 n (((31 : Int64) * (((31 : Int64) * x1) + ((fv_X5_station x3 x4 M)).toInt64)) + ((fv_X5_papers x3 x4 M)).toInt64) x3 (x4 + (1 : Int32)) M)) := rfl
def ok_L_mark_45 (rec33 : Int64 → Int32 → ps_M → Int64 × ps_M) (okr33 : Int64 → Int32 → ps_M → Prop) : Nat → Int64 → Int32 → Int32 → ps_M → Prop
  | 0, _, _, _, _ => False
  | n + 1, x1, x3, x4, M => ((8 : Int32) ≤ x4 → ((ok_X5_papers x3 (8 : Int32) M) ∧ (ok_L_mark_104 rec33 okr33 ps_FU (((31 : Int64) * x1) + ((fv_X5_papers x3 (8 : Int32) M)).toInt64) x3 (0 : Int32) M))) ∧ (¬ ((8 : Int32) ≤ x4) → ((ok_X5_station x3 x4 M) ∧ ((ok_X5_papers x3 x4 M) ∧ (ok_L_mark_45 rec33 okr33 n (((31 : Int64) * (((31 : Int64) * x1) + ((fv_X5_station x3 x4 M)).toInt64)) + ((fv_X5_papers x3 x4 M)).toInt64) x3 (x4 + (1 : Int32)) M))))
theorem ok_L_mark_45_s (rec33 : Int64 → Int32 → ps_M → Int64 × ps_M) (okr33 : Int64 → Int32 → ps_M → Prop) (n : Nat) (x1 : Int64) (x3 : Int32) (x4 : Int32) (M : ps_M) : ok_L_mark_45 rec33 okr33 (n + 1) x1 x3 x4 M = (((8 : Int32) ≤ x4 → ((ok_X5_papers x3 (8 : Int32) M) ∧ (ok_L_mark_104 rec33 okr33 ps_FU (((31 : Int64) * x1) + ((fv_X5_papers x3 (8 : Int32) M)).toInt64) x3 (0 : Int32) M))) ∧ (¬ ((8 : Int32) ≤ x4) → ((ok_X5_station x3 x4 M) ∧ ((ok_X5_papers x3 x4 M) ∧ (ok_L_mark_45 rec33 okr33 n (((31 : Int64) * (((31 : Int64) * x1) + ((fv_X5_station x3 x4 M)).toInt64)) + ((fv_X5_papers x3 x4 M)).toInt64) x3 (x4 + (1 : Int32)) M))))) := rfl
set_option maxRecDepth 100000 in
set_option maxHeartbeats 4000000 in
theorem bw_L_mark_45 {E : ps_E} {X : ps_X (Int64 × ps_M)} (C : ps_C (ps_Yc E) X cL_mark RL (some .long) 4 86 5) (RT : ps_RJ (ps_Yc E) X cL_mark) (rec33 : Int64 → Int32 → ps_M → Int64 × ps_M) (okr33 : Int64 → Int32 → ps_M → Prop) (hr33 : ∀ (x1 : Int64) (x3 : Int32)  (M : ps_M), okr33 x1 x3 M → ps_G (ps_Yc E) X (rec33 x1 x3 M) 33 [(0, .ref (ps_ad E 0)), (1, .long x1), (3, .int x3)] [] M) : ∀ (n : Nat) (x1 : Int64) (x3 : Int32) (x4 : Int32) (M : ps_M), ok_L_mark_45 rec33 okr33 n x1 x3 x4 M → ps_G (ps_Yc E) X (fv_L_mark_45 rec33 n x1 x3 x4 M) 45 [(0, .ref (ps_ad E 0)), (1, .long x1), (3, .int x3), (4, .int x4)] [] M := by
  intro n
  induction n with
  | zero => intro x1 x3 x4 M h; exact h.elim
  | succ n ih =>
    intro x1 x3 x4 M hk
    rw [fv_L_mark_45_s]
    rw [ok_L_mark_45_s] at hk
    refine gw_iload C 47 dL_mark_45 3 rfl rfl ?_
    refine gw_bipush C 49 dL_mark_47 (v := 8) (by decide) rfl ?_
    refine gw_ic_ge C 86 52 dL_mark_49 (by decide) rfl (fun c49 => ?_) (fun c49 => ?_)
    · refine gw_ldc2 C 89 dL_mark_86 lk_L_11 rfl ?_
      refine gw_lload_n C 90 dL_mark_89 1 rfl rfl ?_
      refine gw_lmul C 91 dL_mark_90 rfl ?_
      refine gw_aload_n C 92 dL_mark_91 0 rfl rfl ?_
      refine gw_iload_n C 93 dL_mark_92 2 rfl rfl ?_
      refine gw_bipush C 95 dL_mark_93 (v := 8) (by decide) rfl ?_
      refine gw_cVp C 98 dL_mark_95 rfl yv_X5_papers lk_L_23 [.int x3, .int (8 : Int32)] [.long ((31 : Int64) * x1)] rfl (ct_X5_papers (E := E) (l := ps_l X) x3 (8 : Int32) M (hk.1 c49).1) rc_P rfl (Nat.le_of_ble_eq_true rfl) (Nat.le_of_ble_eq_true rfl) (Nat.le_of_ble_eq_true rfl) ?_
      refine gw_i2l C 99 dL_mark_98 rfl ?_
      refine gw_ladd C 100 dL_mark_99 rfl ?_
      refine gw_lstore_n C 101 dL_mark_100 rfl [(0, .ref (ps_ad E 0)), (1, .long (((31 : Int64) * x1) + ((fv_X5_papers x3 (8 : Int32) M)).toInt64)), (3, .int x3), (4, .int x4)] [1, 0, 2, 3] (by decide) rfl ?_
      refine gw_iconst C 102 dL_mark_101 (v := 0) (by decide) rfl ?_
      refine gw_istore C 104 dL_mark_102 rfl [(0, .ref (ps_ad E 0)), (1, .long (((31 : Int64) * x1) + ((fv_X5_papers x3 (8 : Int32) M)).toInt64)), (3, .int x3), (4, .int (0 : Int32))] [1, 2, 3, 0] (by decide) rfl ?_
      exact bw_L_mark_104 C RT _ _ hr33 ps_FU (((31 : Int64) * x1) + ((fv_X5_papers x3 (8 : Int32) M)).toInt64) x3 (0 : Int32) M (hk.1 c49).2
    · refine gw_ldc2 C 55 dL_mark_52 lk_L_11 rfl ?_
      refine gw_ldc2 C 58 dL_mark_55 lk_L_11 rfl ?_
      refine gw_lload_n C 59 dL_mark_58 1 rfl rfl ?_
      refine gw_lmul C 60 dL_mark_59 rfl ?_
      refine gw_aload_n C 61 dL_mark_60 0 rfl rfl ?_
      refine gw_iload_n C 62 dL_mark_61 2 rfl rfl ?_
      refine gw_iload C 64 dL_mark_62 3 rfl rfl ?_
      refine gw_cVp C 67 dL_mark_64 rfl yv_X5_station lk_L_19 [.int x3, .int x4] [.long ((31 : Int64) * x1), .long (31 : Int64)] rfl (ct_X5_station (E := E) (l := ps_l X) x3 x4 M (hk.2 c49).1) rc_P rfl (Nat.le_of_ble_eq_true rfl) (Nat.le_of_ble_eq_true rfl) (Nat.le_of_ble_eq_true rfl) ?_
      refine gw_i2l C 68 dL_mark_67 rfl ?_
      refine gw_ladd C 69 dL_mark_68 rfl ?_
      refine gw_lmul C 70 dL_mark_69 rfl ?_
      refine gw_aload_n C 71 dL_mark_70 0 rfl rfl ?_
      refine gw_iload_n C 72 dL_mark_71 2 rfl rfl ?_
      refine gw_iload C 74 dL_mark_72 3 rfl rfl ?_
      refine gw_cVp C 77 dL_mark_74 rfl yv_X5_papers lk_L_23 [.int x3, .int x4] [.long ((31 : Int64) * (((31 : Int64) * x1) + ((fv_X5_station x3 x4 M)).toInt64))] rfl (ct_X5_papers (E := E) (l := ps_l X) x3 x4 M (hk.2 c49).2.1) rc_P rfl (Nat.le_of_ble_eq_true rfl) (Nat.le_of_ble_eq_true rfl) (Nat.le_of_ble_eq_true rfl) ?_
      refine gw_i2l C 78 dL_mark_77 rfl ?_
      refine gw_ladd C 79 dL_mark_78 rfl ?_
      refine gw_lstore_n C 80 dL_mark_79 rfl [(0, .ref (ps_ad E 0)), (1, .long (((31 : Int64) * (((31 : Int64) * x1) + ((fv_X5_station x3 x4 M)).toInt64)) + ((fv_X5_papers x3 x4 M)).toInt64)), (3, .int x3), (4, .int x4)] [1, 0, 2, 3] (by decide) rfl ?_
      refine gw_iinc C 83 dL_mark_80 rfl (y := 1) (by decide) rfl 3 rfl [(0, .ref (ps_ad E 0)), (1, .long (((31 : Int64) * (((31 : Int64) * x1) + ((fv_X5_station x3 x4 M)).toInt64)) + ((fv_X5_papers x3 x4 M)).toInt64)), (3, .int x3), (4, .int (x4 + (1 : Int32)))] [1, 2, 3, 0] (by decide) rfl ?_
      refine gw_goto C 45 dL_mark_83 (by decide) ?_
      exact ih (((31 : Int64) * (((31 : Int64) * x1) + ((fv_X5_station x3 x4 M)).toInt64)) + ((fv_X5_papers x3 x4 M)).toInt64) x3 (x4 + (1 : Int32)) M (hk.2 c49).2.2
def fv_L_mark_33 : Nat → Int64 → Int32 → ps_M → Int64 × ps_M
  | 0, _, _, M => (0, M)
  | n + 1, x1, x3, M => if (fv_X5_count (1 : Int32) M).1 ≤ x3 then (fv_L_mark_140 ps_FU x1 (0 : Int32) ((fv_X5_count (1 : Int32) M).2)) else (fv_L_mark_45 (fun a1 a3 M => fv_L_mark_33 n a1 a3 M) ps_FU x1 x3 (0 : Int32) ((fv_X5_count (1 : Int32) M).2))
theorem fv_L_mark_33_s (n : Nat) (x1 : Int64) (x3 : Int32) (M : ps_M) : fv_L_mark_33 (n + 1) x1 x3 M = (if (fv_X5_count (1 : Int32) M).1 ≤ x3 then (fv_L_mark_140 ps_FU x1 (0 : Int32) ((fv_X5_count (1 : Int32) M).2)) else (fv_L_mark_45 (fun a1 a3 M => fv_L_mark_33 n a1 a3 M) ps_FU x1 x3 (0 : Int32) ((fv_X5_count (1 : Int32) M).2))) := rfl
def ok_L_mark_33 : Nat → Int64 → Int32 → ps_M → Prop
  | 0, _, _, _ => False
  | n + 1, x1, x3, M => (ok_X5_count (1 : Int32) M) ∧ (((fv_X5_count (1 : Int32) M).1 ≤ x3 → (ok_L_mark_140 ps_FU x1 (0 : Int32) ((fv_X5_count (1 : Int32) M).2))) ∧ (¬ ((fv_X5_count (1 : Int32) M).1 ≤ x3) → (ok_L_mark_45 (fun a1 a3 M => fv_L_mark_33 n a1 a3 M) (fun a1 a3 M => ok_L_mark_33 n a1 a3 M) ps_FU x1 x3 (0 : Int32) ((fv_X5_count (1 : Int32) M).2))))
theorem ok_L_mark_33_s (n : Nat) (x1 : Int64) (x3 : Int32) (M : ps_M) : ok_L_mark_33 (n + 1) x1 x3 M = ((ok_X5_count (1 : Int32) M) ∧ (((fv_X5_count (1 : Int32) M).1 ≤ x3 → (ok_L_mark_140 ps_FU x1 (0 : Int32) ((fv_X5_count (1 : Int32) M).2))) ∧ (¬ ((fv_X5_count (1 : Int32) M).1 ≤ x3) → (ok_L_mark_45 (fun a1 a3 M => fv_L_mark_33 n a1 a3 M) (fun a1 a3 M => ok_L_mark_33 n a1 a3 M) ps_FU x1 x3 (0 : Int32) ((fv_X5_count (1 : Int32) M).2))))) := rfl
set_option maxRecDepth 100000 in
set_option maxHeartbeats 4000000 in
theorem bw_L_mark_33 {E : ps_E} {X : ps_X (Int64 × ps_M)} (C : ps_C (ps_Yc E) X cL_mark RL (some .long) 4 86 5) (RT : ps_RJ (ps_Yc E) X cL_mark) : ∀ (n : Nat) (x1 : Int64) (x3 : Int32) (M : ps_M), ok_L_mark_33 n x1 x3 M → ps_G (ps_Yc E) X (fv_L_mark_33 n x1 x3 M) 33 [(0, .ref (ps_ad E 0)), (1, .long x1), (3, .int x3)] [] M := by
  intro n
  induction n with
  | zero => intro x1 x3 M h; exact h.elim
  | succ n ih =>
    intro x1 x3 M hk
    rw [fv_L_mark_33_s]
    rw [ok_L_mark_33_s] at hk
    refine gw_iload_n C 34 dL_mark_33 2 rfl rfl ?_
    refine gw_aload_n C 35 dL_mark_34 0 rfl rfl ?_
    refine gw_iconst C 36 dL_mark_35 (v := 1) (by decide) rfl ?_
    refine gw_cVi C 39 dL_mark_36 rfl yv_X5_count lk_L_13 [.int (1 : Int32)] [.int x3] rfl (ct_X5_count (E := E) (l := ps_l X) (1 : Int32) M hk.1) rc_P rfl (Nat.le_of_ble_eq_true rfl) (Nat.le_of_ble_eq_true rfl) (Nat.le_of_ble_eq_true rfl) ?_
    refine gw_ic_ge C 138 42 dL_mark_39 (by decide) rfl (fun c39 => ?_) (fun c39 => ?_)
    · refine gw_iconst C 139 dL_mark_138 (v := 0) (by decide) rfl ?_
      refine gw_istore_n C 140 dL_mark_139 rfl [(0, .ref (ps_ad E 0)), (1, .long x1), (3, .int (0 : Int32))] [1, 2, 0] (by decide) rfl ?_
      exact bw_L_mark_140 C RT  ps_FU x1 (0 : Int32) ((fv_X5_count (1 : Int32) M).2) (hk.2.1 c39)
    · refine gw_iconst C 43 dL_mark_42 (v := 0) (by decide) rfl ?_
      refine gw_istore C 45 dL_mark_43 rfl [(0, .ref (ps_ad E 0)), (1, .long x1), (3, .int x3), (4, .int (0 : Int32))] [1, 2, 3, 0] (by decide) rfl ?_
      exact bw_L_mark_45 C RT _ _ (fun a1 a3  M h => ih a1 a3  M h) ps_FU x1 x3 (0 : Int32) ((fv_X5_count (1 : Int32) M).2) (hk.2.2 c39)
def fv_L_mark_6 : Nat → Int64 → Int32 → ps_M → Int64 × ps_M
  | 0, _, _, M => (0, M)
  | n + 1, x1, x3, M => if (14 : Int32) ≤ x3 then (fv_L_mark_33 ps_FU x1 (0 : Int32) M) else (fv_L_mark_6 n (((31 : Int64) * x1) + ((fv_X5_count x3 M).1).toInt64) (x3 + (1 : Int32)) ((fv_X5_count x3 M).2))
theorem fv_L_mark_6_s (n : Nat) (x1 : Int64) (x3 : Int32) (M : ps_M) : fv_L_mark_6 (n + 1) x1 x3 M = (if (14 : Int32) ≤ x3 then (fv_L_mark_33 ps_FU x1 (0 : Int32) M) else (fv_L_mark_6 n (((31 : Int64) * x1) + ((fv_X5_count x3 M).1).toInt64) (x3 + (1 : Int32)) ((fv_X5_count x3 M).2))) := rfl
def ok_L_mark_6 : Nat → Int64 → Int32 → ps_M → Prop
  | 0, _, _, _ => False
  | n + 1, x1, x3, M => ((14 : Int32) ≤ x3 → (ok_L_mark_33 ps_FU x1 (0 : Int32) M)) ∧ (¬ ((14 : Int32) ≤ x3) → ((ok_X5_count x3 M) ∧ (ok_L_mark_6 n (((31 : Int64) * x1) + ((fv_X5_count x3 M).1).toInt64) (x3 + (1 : Int32)) ((fv_X5_count x3 M).2))))
theorem ok_L_mark_6_s (n : Nat) (x1 : Int64) (x3 : Int32) (M : ps_M) : ok_L_mark_6 (n + 1) x1 x3 M = (((14 : Int32) ≤ x3 → (ok_L_mark_33 ps_FU x1 (0 : Int32) M)) ∧ (¬ ((14 : Int32) ≤ x3) → ((ok_X5_count x3 M) ∧ (ok_L_mark_6 n (((31 : Int64) * x1) + ((fv_X5_count x3 M).1).toInt64) (x3 + (1 : Int32)) ((fv_X5_count x3 M).2))))) := rfl
set_option maxRecDepth 100000 in
set_option maxHeartbeats 4000000 in
theorem bw_L_mark_6 {E : ps_E} {X : ps_X (Int64 × ps_M)} (C : ps_C (ps_Yc E) X cL_mark RL (some .long) 4 86 5) (RT : ps_RJ (ps_Yc E) X cL_mark) : ∀ (n : Nat) (x1 : Int64) (x3 : Int32) (M : ps_M), ok_L_mark_6 n x1 x3 M → ps_G (ps_Yc E) X (fv_L_mark_6 n x1 x3 M) 6 [(0, .ref (ps_ad E 0)), (1, .long x1), (3, .int x3)] [] M := by
  intro n
  induction n with
  | zero => intro x1 x3 M h; exact h.elim
  | succ n ih =>
    intro x1 x3 M hk
    rw [fv_L_mark_6_s]
    rw [ok_L_mark_6_s] at hk
    refine gw_iload_n C 7 dL_mark_6 2 rfl rfl ?_
    refine gw_bipush C 9 dL_mark_7 (v := 14) (by decide) rfl ?_
    refine gw_ic_ge C 31 12 dL_mark_9 (by decide) rfl (fun c9 => ?_) (fun c9 => ?_)
    · refine gw_iconst C 32 dL_mark_31 (v := 0) (by decide) rfl ?_
      refine gw_istore_n C 33 dL_mark_32 rfl [(0, .ref (ps_ad E 0)), (1, .long x1), (3, .int (0 : Int32))] [1, 2, 0] (by decide) rfl ?_
      exact bw_L_mark_33 C RT  ps_FU x1 (0 : Int32) M (hk.1 c9)
    · refine gw_ldc2 C 15 dL_mark_12 lk_L_11 rfl ?_
      refine gw_lload_n C 16 dL_mark_15 1 rfl rfl ?_
      refine gw_lmul C 17 dL_mark_16 rfl ?_
      refine gw_aload_n C 18 dL_mark_17 0 rfl rfl ?_
      refine gw_iload_n C 19 dL_mark_18 2 rfl rfl ?_
      refine gw_cVi C 22 dL_mark_19 rfl yv_X5_count lk_L_13 [.int x3] [.long ((31 : Int64) * x1)] rfl (ct_X5_count (E := E) (l := ps_l X) x3 M (hk.2 c9).1) rc_P rfl (Nat.le_of_ble_eq_true rfl) (Nat.le_of_ble_eq_true rfl) (Nat.le_of_ble_eq_true rfl) ?_
      refine gw_i2l C 23 dL_mark_22 rfl ?_
      refine gw_ladd C 24 dL_mark_23 rfl ?_
      refine gw_lstore_n C 25 dL_mark_24 rfl [(0, .ref (ps_ad E 0)), (1, .long (((31 : Int64) * x1) + ((fv_X5_count x3 M).1).toInt64)), (3, .int x3)] [1, 0, 2] (by decide) rfl ?_
      refine gw_iinc C 28 dL_mark_25 rfl (y := 1) (by decide) rfl 2 rfl [(0, .ref (ps_ad E 0)), (1, .long (((31 : Int64) * x1) + ((fv_X5_count x3 M).1).toInt64)), (3, .int (x3 + (1 : Int32)))] [1, 2, 0] (by decide) rfl ?_
      refine gw_goto C 6 dL_mark_28 (by decide) ?_
      exact ih (((31 : Int64) * x1) + ((fv_X5_count x3 M).1).toInt64) (x3 + (1 : Int32)) ((fv_X5_count x3 M).2) (hk.2 c9).2
def fv_L_mark  (M : ps_M) : Int64 × ps_M := fv_L_mark_6 ps_FU (17 : Int64) (0 : Int32) M
def ok_L_mark  (M : ps_M) : Prop := ok_L_mark_6 ps_FU (17 : Int64) (0 : Int32) M
set_option maxRecDepth 100000 in
set_option maxHeartbeats 4000000 in
theorem bw_L_mark {E : ps_E} {X : ps_X (Int64 × ps_M)} (C : ps_C (ps_Yc E) X cL_mark RL (some .long) 4 86 5) (RT : ps_RJ (ps_Yc E) X cL_mark)  (M : ps_M) (hk : ok_L_mark  M) : ps_G (ps_Yc E) X (fv_L_mark  M) 0 [(0, .ref (ps_ad E 0))] [] M := by
  unfold fv_L_mark
  unfold ok_L_mark at hk
  refine gw_ldc2 C 3 dL_mark_0 lk_L_9 rfl ?_
  refine gw_lstore_n C 4 dL_mark_3 rfl [(0, .ref (ps_ad E 0)), (1, .long (17 : Int64))] [1, 0] (by decide) rfl ?_
  refine gw_iconst C 5 dL_mark_4 (v := 0) (by decide) rfl ?_
  refine gw_istore_n C 6 dL_mark_5 rfl [(0, .ref (ps_ad E 0)), (1, .long (17 : Int64)), (3, .int (0 : Int32))] [1, 2, 0] (by decide) rfl ?_
  exact bw_L_mark_6 C RT  ps_FU (17 : Int64) (0 : Int32) M hk
theorem ct_L_mark {E : ps_E} {l : Launch}   (M : ps_M) (hk : ok_L_mark  M) : ps_CJ (ps_Yc E) l yL_mark cL_mark 5 (some .long) 4 86 [.ref (ps_ad E 0)] M (fv_L_mark  M) := ps_metJ RL (by decide) rfl (Nat.le_of_ble_eq_true rfl) rfl (fun X _ C RT => bw_L_mark C RT M hk)
