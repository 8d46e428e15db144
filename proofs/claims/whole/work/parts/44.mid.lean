theorem nc_le2 {g : Nat} (hg : g ≤ 3) : ((2 : Int32) ≤ nI (g - 1)) ↔ g = 3 := by
  rw [show (2 : Int32) = nI 2 from rfl, pq_le, pq_nT (by omega), pq_nT (by omega)]; omega
theorem nc_mul (v c : Int32) : ((10 : Int32) * v + c) - 48 = v * 10 + (c - 48) := by
  rw [Int32.mul_comm, Int32.sub_eq_add_neg, Int32.add_assoc, ← Int32.sub_eq_add_neg]
theorem cmd_step {M : ps_M} {n p : Nat} (hM : M 194 2 = nI n) (hp : p < n) (hs : Cst M n (p + 1)) (hm : Cmd M n (p + 1)) : Cmd M n p := by
  intro k g z v N ht hk h2 hg f1 f2 f3 hf1 hf2 hf3
  have hn := ht.1
  cases f1 with
  | zero => omega
  | succ f1 =>
    cases f3 with
    | zero => omega
    | succ f3 =>
      have l : (nI n ≤ nI p) = False := pq_leF hp (by omega)
      have v1 : vp_in (nI p) 60 := pq_vin (by omega) (by omega)
      obtain ⟨s1, s2⟩ := sg_at ht hp
      have hg3 : 1 ≤ g ∧ g ≤ 3 := by omega
      have g0 : (nI g = (0 : Int32)) = False := eq_false (fun e => by
        rw [show (0 : Int32) = nI 0 from rfl, pq_inj (by omega) (by omega)] at e; omega)
      have gg3 : (nI g = (3 : Int32)) = (g = 3) := by
        rw [show (3 : Int32) = nI 3 from rfl]; exact propext (pq_inj (by omega) (by omega))
      have l2 := nc_le2 hg3.2
      have hF := f93 (v := v) (fun a1 a2 M => fv_X6_faultOf_9 f2 a1 a2 M) (fun a1 a2 M => ok_X6_faultOf_9 f2 a1 a2 M) ht hk (by omega) (Nat.le_of_lt hp)
      obtain ⟨t1, t2, t3, t4⟩ := nst_f (N := N) (k := k) (v := v)
      have vb : 0 ≤ v.toInt ∧ v.toInt ≤ 999 := by
        rcases hg with ⟨-, h, -⟩ | h
        · rw [h]; decide
        · omega
      have g48 : ((48 : Int32)).toInt = 48 := by decide
      have g57 : ((57 : Int32)).toInt = 57 := by decide
      have g44 : ((44 : Int32)).toInt = 44 := by decide
      have resF : RES M N n k p v (nI p) (nI p, nst N k v) := RES_fault (by omega) t1 t2 (fun j hj => t3 j (by omega))
      rw [fv_X0_fault_6_s, ok_X0_fault_6_s, fv_X6_faultOf_45_s, ok_X6_faultOf_45_s, hM, s1, pq_nI (by omega), dg_in _ M N]
      rcases in_01 (M 195 p) 48 57 N with dg | dg
      · by_cases c44 : M 195 p = 44
        · obtain ⟨e1, e2⟩ := hF.2.1 hp c44
          obtain ⟨⟨r1, r2, r3, r4⟩, r5, r6⟩ := hs (k + 1) (nst N k v) (nst_tx ht) nst_9 (by omega) f1 f2 (by omega) (by omega)
          have o1 := e2 r6
          have er : (if (2 : Int32) ≤ nI (g - 1) then fv_X6_faultOf_93 (fun a1 a2 M => fv_X6_faultOf_9 f2 a1 a2 M) (nI p) v N else if v ≤ 0 then fv_X6_faultOf_93 (fun a1 a2 M => fv_X6_faultOf_9 f2 a1 a2 M) (nI p) v N else if fv_X6_in (M 195 p) 48 57 N = 0 then fv_X6_faultOf_93 (fun a1 a2 M => fv_X6_faultOf_9 f2 a1 a2 M) (nI p) v N else fv_X6_faultOf_45 (fun a1 a2 M => fv_X6_faultOf_9 f2 a1 a2 M) f3 (nI p + 1) ((10 * v + M 195 p) - 48) (nI (g - 1) + 1) N) = fv_X6_faultOf_9 f2 (nI (p + 1)) 1 (nst N k v) := by
            rw [if_pos dg, e1]
            split
            · rfl
            · split <;> rfl
          rw [er, if_neg (by rw [l]; exact id), if_pos dg, if_pos c44, if_neg (by rw [g0]; exact id), pq_nIadd1]
          refine ⟨⟨fun i i1 i2 => (r1 i i1 i2).trans (t1 i i1 i2), fun j hj => (r2 j hj).trans (t2 j hj), fun j hj => (r3 j (by omega)).trans (t3 j (by omega)), ?_⟩, ?_, ?_⟩
          · rcases r4 with r4 | ⟨a1, a2, K, a3, a4, a5, a6, a7⟩
            · exact Or.inl r4
            · have wk := (r3 k (by omega)).trans t4
              refine Or.inr ⟨a1, a2, K, by omega, a4, a5, fun j j1 j2 => ?_, rd_comma hn hM hp (by omega) c44 wk a7⟩
              by_cases e : j = k
              · rw [e, wk]; exact vb
              · exact a6 j (by omega) j2
          · exact ⟨fun z => absurd z (by rw [l]; exact id), fun _ => ⟨v1, trivial, fun _ => ⟨fun _ => ⟨fun z => absurd z (by rw [g0]; exact id), fun _ => r5⟩, fun z => absurd c44 z⟩, fun z => absurd dg z⟩⟩
          · exact ⟨fun _ => o1, fun _ => ⟨fun _ => o1, fun _ => ⟨s2, trivial, fun _ => o1, fun z => absurd dg z⟩⟩⟩
        · obtain ⟨e1, e2⟩ := hF.2.2 hp c44
          have er : (if (2 : Int32) ≤ nI (g - 1) then fv_X6_faultOf_93 (fun a1 a2 M => fv_X6_faultOf_9 f2 a1 a2 M) (nI p) v N else if v ≤ 0 then fv_X6_faultOf_93 (fun a1 a2 M => fv_X6_faultOf_9 f2 a1 a2 M) (nI p) v N else if fv_X6_in (M 195 p) 48 57 N = 0 then fv_X6_faultOf_93 (fun a1 a2 M => fv_X6_faultOf_9 f2 a1 a2 M) (nI p) v N else fv_X6_faultOf_45 (fun a1 a2 M => fv_X6_faultOf_9 f2 a1 a2 M) f3 (nI p + 1) ((10 * v + M 195 p) - 48) (nI (g - 1) + 1) N) = (nI p, nst N k v) := by
            rw [if_pos dg, e1]
            split
            · rfl
            · split <;> rfl
          rw [er, if_neg (by rw [l]; exact id), if_pos dg, if_neg c44]
          refine ⟨resF, ?_, ?_⟩
          · exact ⟨fun z => absurd z (by rw [l]; exact id), fun _ => ⟨v1, trivial, fun _ => ⟨fun z => absurd z c44, fun _ => trivial⟩, fun z => absurd dg z⟩⟩
          · exact ⟨fun _ => e2, fun _ => ⟨fun _ => e2, fun _ => ⟨s2, trivial, fun _ => e2, fun z => absurd dg z⟩⟩⟩
      · have hb := in_b dg
        have c44 : ¬ (M 195 p = 44) := fun e => by rw [e, g44] at hb; omega
        have dg0 : ¬ (fv_X6_in (M 195 p) 48 57 N = 0) := by rw [dg]; decide
        obtain ⟨e1, e2⟩ := hF.2.2 hp c44
        by_cases q3 : g = 3
        · have q3' : nI g = (3 : Int32) := by rw [gg3]; exact q3
          have q2 := l2.mpr q3
          rw [if_neg (by rw [l]; exact id), if_neg dg0, if_pos q3', if_pos q2, e1]
          refine ⟨resF, ?_, ?_⟩
          · exact ⟨fun z => absurd z (by rw [l]; exact id), fun _ => ⟨v1, trivial, fun z => absurd z dg0, fun _ => ⟨fun _ => trivial, fun z => absurd q3' z⟩⟩⟩
          · exact ⟨fun _ => e2, fun z => absurd q2 z⟩
        · have q3' : ¬ (nI g = (3 : Int32)) := by rw [gg3]; exact q3
          have q2 : ¬ ((2 : Int32) ≤ nI (g - 1)) := fun z => q3 (l2.mp z)
          rcases hg with ⟨z1, vz, -⟩ | ⟨z0, vp, hgb⟩
          · have v0 : v ≤ 0 := by rw [vz]; decide
            have zz : ¬ (z = 0) := by rw [z1]; decide
            rw [if_neg (by rw [l]; exact id), if_neg dg0, if_neg q3', if_neg zz, if_neg q2, if_pos v0, e1]
            refine ⟨resF, ?_, ?_⟩
            · exact ⟨fun z => absurd z (by rw [l]; exact id), fun _ => ⟨v1, trivial, fun z => absurd z dg0, fun _ => ⟨fun z => absurd z q3', fun _ => ⟨fun y => absurd y zz, fun _ => trivial⟩⟩⟩⟩
            · exact ⟨fun _ => e2, fun _ => ⟨fun _ => e2, fun z => absurd v0 z⟩⟩
          · have v0 : ¬ (v ≤ 0) := by rw [pq_le, Int32.toInt_zero]; omega
            have g10 : ((10 : Int32)).toInt = 10 := by decide
            have em : ((10 : Int32) * v).toInt = 10 * v.toInt := by
              rw [Int32.toInt_mul, g10]; exact Int.bmod_eq_of_le (by omega) (by omega)
            have ea : ((10 : Int32) * v + M 195 p).toInt = 10 * v.toInt + (M 195 p).toInt := by rw [pq_add (by omega) (by omega), em]
            have es : (((10 : Int32) * v + M 195 p) - 48).toInt = 10 * v.toInt + (M 195 p).toInt - 48 := by rw [pq_sub (by omega) (by omega), ea, g48]
            obtain ⟨⟨r1, r2, r3, r4⟩, r5, r6⟩ := hm k (g + 1) 0 (((10 : Int32) * v + M 195 p) - 48) N ht hk (by omega) (Or.inr ⟨rfl, by omega, by omega⟩) f1 f2 f3 (by omega) (by omega) (by omega)
            have eg : nI (g - 1) + 1 = nI (g + 1 - 1) := by rw [pq_nIadd1, show g - 1 + 1 = g + 1 - 1 by omega]
            rw [if_neg (by rw [l]; exact id), if_neg dg0, if_neg q3', if_pos z0, if_neg (by rw [g0]; exact id), if_neg q2, if_neg v0, if_neg dg0, eg, pq_nIadd1]
            unfold fv_X0_fault_56 fv_X0_fault_57 ok_X0_fault_56 ok_X0_fault_57
            rw [pq_nIadd1, pq_nIadd1]
            refine ⟨⟨r1, r2, r3, ?_⟩, ?_, ?_⟩
            · rcases r4 with r4 | ⟨a1, a2, K, a3, a4, a5, a6, a7⟩
              · exact Or.inl r4
              · exact Or.inr ⟨a1, a2, K, a3, a4, a5, a6, rd_digit hn hM hp (by omega) c44 (nc_mul v (M 195 p)) a7⟩
            · exact ⟨fun z => absurd z (by rw [l]; exact id), fun _ => ⟨v1, trivial, fun z => absurd z dg0, fun _ => ⟨fun z => absurd z q3', fun _ => ⟨fun _ => ⟨fun y => absurd y (by rw [g0]; exact id), fun _ => r5⟩, fun y => absurd z0 y⟩⟩⟩⟩
            · exact ⟨fun z => absurd z q2, fun _ => ⟨fun z => absurd z v0, fun _ => ⟨s2, trivial, fun z => absurd z dg0, fun _ => ⟨s2, r6⟩⟩⟩⟩
theorem parse_all {M : ps_M} {n : Nat} (hM : M 194 2 = nI n) : ∀ m p, p + m = n → Cst M n p ∧ Cmd M n p := by
  intro m
  induction m with
  | zero => intro p hp; rw [show p = n by omega]; exact ⟨cst_end hM, cmd_end hM⟩
  | succ m ih =>
    intro p hp
    obtain ⟨i1, i2⟩ := ih (p + 1) (by omega)
    exact ⟨cst_step hM (by omega) i2, cmd_step hM (by omega) i1 i2⟩
