/-! ===== the first memories are related; the whole ===== -/
theorem pn_z {k : Nat} (h : k ≠ 85) (h7 : ps_kd k ≠ 7) : pn_M0 k = fun _ => 0 := by
  rw [pn_m0 h]; funext i; rw [if_neg h7]
theorem pn_st : ∀ s, s < 6 → ps_kd (1 + 1 + 1 + 2 * s) ≠ 7 ∧ ps_kd (1 + 1 + 1 + 2 * s + 1) ≠ 7 := by decide +kernel
theorem pn_ck : ∀ c, c < 12 → ps_kd (1 + 14 + 1 + c) = 7 := by decide +kernel
theorem pn_hd : ps_kd 0 ≠ 7 ∧ ps_kd 1 ≠ 7 ∧ ps_kd 84 ≠ 7 ∧ ps_kd 194 ≠ 7 := by decide +kernel
theorem sf0 : ∀ k, pq_sf (fun _ => 0) k = 0 := by
  intro k
  induction k with
  | zero => rfl
  | succ k ih =>
    show ((0 : Int32)).toInt + pq_sf (fun _ => 0) k = 0
    rw [ih, Int32.toInt_zero]; rfl
theorem pq_sv0 (s : Nat) : pq_sv (pn_N0 1) s = fun _ => 0 := by
  funext j; unfold pq_sv pn_N0; split <;> rfl
theorem pq_kv0 (c : Nat) : pq_kv (pn_N0 1) c = fun _ => 0 := by
  funext j; unfold pq_kv pn_N0; split <;> rfl
theorem Rel_first : Rel pn_M0 pn_N0 := by
  have z0 : ((0 : Int32)).toInt = 0 := by decide
  have e0 := pn_z (k := 0) (by omega) pn_hd.1
  have e1 := pn_z (k := 1) (by omega) pn_hd.2.1
  have e84 := pn_z (k := 84) (by omega) pn_hd.2.2.1
  have e194 := pn_z (k := 194) (by omega) pn_hd.2.2.2
  refine ⟨⟨0, 0, 0, ⟨by rw [e1]; rfl, by rw [e1]; rfl, by rw [e1]; rfl⟩, ⟨rfl, rfl, rfl⟩, ⟨by omega, by omega, by omega⟩, fun s hs => ?_, fun c hc => ?_⟩, Or.inl ⟨by rw [e0], rfl⟩, ⟨0, fun i => 86 + 27 * i, by omega, ⟨fun i hi => ?_, fun i j hi hj h => by have h2 : 86 + 27 * i = 86 + 27 * j := h; omega⟩, by rw [e84]; rfl, rfl, fun i hi => ?_, fun i hi => absurd hi (by omega)⟩, ⟨0, by omega, by rw [e194]; rfl, rfl, fun i hi => absurd hi (by omega)⟩⟩
  · rw [pn_z (by omega) (pn_st s hs).1, pn_z (by omega) (pn_st s hs).2, pq_sv0]
    refine ⟨⟨rfl, rfl, rfl, rfl, rfl, rfl, rfl, rfl, rfl, rfl⟩, fun t ht => ⟨rfl, by rw [z0]; omega, by rw [z0]; omega⟩, by rw [z0]; exact ⟨by omega, (pB_pos 0).1⟩, ⟨fun _ => ⟨rfl, by rw [z0]; omega, by rw [z0]; omega⟩, fun q => absurd trivial q⟩, Or.inl ⟨rfl, fun q => absurd q (by omega), fun _ => rfl⟩⟩
  · have ek : ∀ i, pn_M0 (1 + 14 + 1 + c) i = if i = 2 then -5 else 0 := fun i => by
      rw [pn_m0 (by omega)]; simp only [pn_ck c hc, if_true]
    rw [pq_kv0]
    refine ⟨⟨by rw [ek]; rfl, by rw [ek]; rfl, by rw [ek]; rfl, by rw [ek]; rfl, by rw [ek]; rfl⟩, Or.inl ⟨by rw [ek]; rfl, fun q => absurd q (by omega), rfl⟩, fun q => absurd q (by omega), by rw [z0]; omega, by rw [z0]; omega, Or.inl rfl⟩
  · have hi : i = 0 ∨ i = 1 ∨ i = 2 ∨ i = 3 := by omega
    rcases hi with rfl | rfl | rfl | rfl <;> decide
  · have hi : i = 0 ∨ i = 1 ∨ i = 2 ∨ i = 3 := by omega
    rcases hi with rfl | rfl | rfl | rfl <;> rfl
theorem sims_all : pl_sims Rel := ⟨sim_addStation, sim_addClerk, sim_setArrivals, sim_assign, sim_relieve, sim_pass, sim_supply, sim_movePapers, sim_spoil, sim_carryOff, sim_find, sim_countBox, sim_type, sim_clearText, sim_readArrivals, sim_undo, sim_keep, sim_restore, sim_station, sim_papers, sim_clerk, sim_arrivals, sim_free, sim_busiest, sim_queueIn, sim_lacks, sim_count⟩
