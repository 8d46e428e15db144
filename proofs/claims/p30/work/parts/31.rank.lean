/-! ===== sums of naturals; places in an order ===== -/
def sN (f : Nat → Nat) : Nat → Nat → Nat
  | 0, _ => 0
  | k + 1, c => f c + sN f k (c + 1)
theorem sN_congr {f g : Nat → Nat} : ∀ (k c : Nat), (∀ i, c ≤ i → i < c + k → f i = g i) → sN f k c = sN g k c := by
  intro k
  induction k with
  | zero => intro c _; rfl
  | succ k ih =>
    intro c h
    show f c + sN f k (c + 1) = g c + sN g k (c + 1)
    rw [h c (by omega) (by omega), ih (c + 1) (fun i h1 h2 => h i (by omega) (by omega))]
theorem sN_le {f g : Nat → Nat} : ∀ (k c : Nat), (∀ i, c ≤ i → i < c + k → f i ≤ g i) → sN f k c ≤ sN g k c := by
  intro k
  induction k with
  | zero => intro c _; exact Nat.le_refl _
  | succ k ih =>
    intro c h
    show f c + sN f k (c + 1) ≤ g c + sN g k (c + 1)
    have h1 := h c (by omega) (by omega)
    have h2 := ih (c + 1) (fun i h1 h2 => h i (by omega) (by omega))
    omega
theorem sN_lt {f g : Nat → Nat} : ∀ (k c : Nat), (∀ i, c ≤ i → i < c + k → f i ≤ g i) → (∃ i, c ≤ i ∧ i < c + k ∧ f i < g i) → sN f k c < sN g k c := by
  intro k
  induction k with
  | zero => intro c _ h; obtain ⟨i, h1, h2, -⟩ := h; omega
  | succ k ih =>
    intro c h hs
    show f c + sN f k (c + 1) < g c + sN g k (c + 1)
    have h1 := h c (by omega) (by omega)
    have hl := sN_le (f := f) (g := g) k (c + 1) (fun i h1 h2 => h i (by omega) (by omega))
    obtain ⟨i, i1, i2, i3⟩ := hs
    by_cases q : i = c
    · subst q; omega
    · have := ih (c + 1) (fun i h1 h2 => h i (by omega) (by omega)) ⟨i, by omega, by omega, i3⟩
      omega
theorem sN_add {f g : Nat → Nat} : ∀ (k c : Nat), sN (fun i => f i + g i) k c = sN f k c + sN g k c := by
  intro k
  induction k with
  | zero => intro c; rfl
  | succ k ih =>
    intro c
    show f c + g c + sN (fun i => f i + g i) k (c + 1) = f c + sN f k (c + 1) + (g c + sN g k (c + 1))
    rw [ih]; omega
theorem sN_zero {f : Nat → Nat} : ∀ (k c : Nat), (∀ i, c ≤ i → i < c + k → f i = 0) → sN f k c = 0 := by
  intro k
  induction k with
  | zero => intro c _; rfl
  | succ k ih =>
    intro c h
    show f c + sN f k (c + 1) = 0
    rw [h c (by omega) (by omega), ih (c + 1) (fun i h1 h2 => h i (by omega) (by omega))]
theorem sN_const (v : Nat) : ∀ (k c : Nat), sN (fun _ => v) k c = k * v := by
  intro k
  induction k with
  | zero => intro c; show 0 = 0 * v; omega
  | succ k ih =>
    intro c
    show v + sN (fun _ => v) k (c + 1) = (k + 1) * v
    rw [ih, Nat.add_mul]; omega
theorem sN_swap {f : Nat → Nat → Nat} (m d : Nat) : ∀ (k c : Nat), sN (fun i => sN (fun j => f i j) m d) k c = sN (fun j => sN (fun i => f i j) k c) m d := by
  intro k
  induction k with
  | zero => intro c; exact (sN_zero m d (fun _ _ _ => rfl)).symm
  | succ k ih =>
    intro c
    show sN (fun j => f c j) m d + sN (fun i => sN (fun j => f i j) m d) k (c + 1) = sN (fun j => f c j + sN (fun i => f i j) k (c + 1)) m d
    rw [ih, sN_add]
/-- who is the only one -/
theorem sN_one {f : Nat → Nat} : ∀ (k c p : Nat), c ≤ p → p < c + k → f p = 1 → (∀ i, c ≤ i → i < c + k → i ≠ p → f i = 0) → sN f k c = 1 := by
  intro k
  induction k with
  | zero => intro c p h1 h2; omega
  | succ k ih =>
    intro c p h1 h2 h3 h4
    show f c + sN f k (c + 1) = 1
    by_cases q : c = p
    · subst q
      rw [h3, sN_zero k (c + 1) (fun i i1 i2 => h4 i (by omega) (by omega) (by omega))]
    · rw [h4 c (by omega) (by omega) q, ih (c + 1) p (by omega) (by omega) h3 (fun i i1 i2 i3 => h4 i (by omega) (by omega) i3)]
theorem sN_ex {f : Nat → Nat} : ∀ (k c : Nat), 0 < sN f k c → ∃ i, c ≤ i ∧ i < c + k ∧ 0 < f i := by
  intro k
  induction k with
  | zero => intro c h; exact absurd h (Nat.lt_irrefl 0)
  | succ k ih =>
    intro c h
    have h : 0 < f c + sN f k (c + 1) := h
    by_cases q : 0 < f c
    · exact ⟨c, by omega, by omega, q⟩
    · obtain ⟨i, i1, i2, i3⟩ := ih (c + 1) (by omega)
      exact ⟨i, by omega, by omega, i3⟩
/-- the sum of ints is the sum of naturals -/
theorem sm_sN {δ : Nat → Int32} {f : Nat → Nat} : ∀ (k c x : Nat), (∀ i, c ≤ i → i < c + k → δ i = nI (f i)) → pq_sm δ k c (nI x) = nI (x + sN f k c) := by
  intro k
  induction k with
  | zero => intro c x _; rfl
  | succ k ih =>
    intro c x h
    show pq_sm δ k (c + 1) (nI x + δ c) = nI (x + (f c + sN f k (c + 1)))
    rw [h c (by omega) (by omega), nI_add, ih (c + 1) _ (fun i h1 h2 => h i (by omega) (by omega)), Nat.add_assoc]
def bN (b : Bool) : Nat := if b then 1 else 0
theorem bN_le (b : Bool) : bN b ≤ 1 := by cases b <;> decide
theorem sN_b {f : Nat → Bool} (k c : Nat) : sN (fun i => bN (f i)) k c ≤ k := by
  have := sN_le (f := fun i => bN (f i)) (g := fun _ => 1) k c (fun i _ _ => bN_le _)
  rw [sN_const] at this
  omega
/-- a strict order on the first n, those with P in it -/
def OR (n : Nat) (lt : Nat → Nat → Bool) : Prop := (∀ i, i < n → lt i i = false) ∧ (∀ i j k, i < n → j < n → k < n → lt i j = true → lt j k = true → lt i k = true) ∧ (∀ i j, i < n → j < n → i ≠ j → lt i j = true ∨ lt j i = true)
def rk (n : Nat) (P : Nat → Bool) (lt : Nat → Nat → Bool) (i : Nat) : Nat := sN (fun j => bN (P j && lt j i)) n 0
def nP (n : Nat) (P : Nat → Bool) : Nat := sN (fun j => bN (P j)) n 0
section RANK
variable {n : Nat} {P : Nat → Bool} {lt : Nat → Nat → Bool}
theorem rk_lt (h : OR n lt) {i j : Nat} (hi : i < n) (hj : j < n) (hP : P i = true) (hl : lt i j = true) : rk n P lt i < rk n P lt j := by
  refine sN_lt n 0 (fun l _ l2 => ?_) ⟨i, by omega, by omega, ?_⟩
  · by_cases q : (P l && lt l i) = true
    · have q' := Bool.and_eq_true_iff.mp q
      rw [show (P l && lt l j) = true from Bool.and_eq_true_iff.mpr ⟨q'.1, h.2.1 l i j (by omega) hi hj q'.2 hl⟩]
      exact bN_le _
    · rw [show (P l && lt l i) = false from Bool.eq_false_iff.mpr q]
      exact Nat.zero_le _
  · rw [hP, h.1 i hi, hl]; decide
theorem rk_bd (h : OR n lt) {i : Nat} (hi : i < n) (hP : P i = true) : rk n P lt i < nP n P := by
  refine sN_lt n 0 (fun l _ _ => ?_) ⟨i, by omega, by omega, ?_⟩
  · cases P l <;> cases lt l i <;> decide
  · rw [hP, h.1 i hi]; decide
theorem rk_inj (h : OR n lt) {i j : Nat} (hi : i < n) (hj : j < n) (hPi : P i = true) (hPj : P j = true) (e : rk n P lt i = rk n P lt j) : i = j := by
  by_cases q : i = j
  · exact q
  · rcases h.2.2 i j hi hj q with z | z
    · have := rk_lt h hi hj hPi z; omega
    · have := rk_lt h hj hi hPj z; omega
theorem rk_rev (h : OR n lt) {i j : Nat} (hi : i < n) (hj : j < n) (hPi : P i = true) (hPj : P j = true) (e : rk n P lt i < rk n P lt j) : lt i j = true := by
  by_cases q : i = j
  · subst q; omega
  · rcases h.2.2 i j hi hj q with z | z
    · exact z
    · have := rk_lt h hj hi hPj z; omega
theorem rk_sur (h : OR n lt) {k : Nat} (hk : k < nP n P) : ∃ i, i < n ∧ P i = true ∧ rk n P lt i = k := by
  -- how many have the place k
  by_cases q : 0 < sN (fun i => bN (P i && decide (rk n P lt i = k))) n 0
  · obtain ⟨i, -, i2, i3⟩ := sN_ex n 0 q
    by_cases z : (P i && decide (rk n P lt i = k)) = true
    · have := Bool.and_eq_true_iff.mp z
      exact ⟨i, by omega, this.1, of_decide_eq_true this.2⟩
    · rw [show (P i && decide (rk n P lt i = k)) = false from Bool.eq_false_iff.mpr z] at i3
      exact absurd i3 (by decide)
  · exfalso
    -- all places together
    have tot : sN (fun k => sN (fun i => bN (P i && decide (rk n P lt i = k))) n 0) (nP n P) 0 = nP n P := by
      rw [sN_swap]
      show sN _ n 0 = sN (fun j => bN (P j)) n 0
      refine sN_congr n 0 (fun i _ i2 => ?_)
      cases hp : P i with
      | false => exact sN_zero _ _ (fun _ _ _ => rfl)
      | true =>
        refine sN_one (nP n P) 0 (rk n P lt i) (by omega) (by have := rk_bd h (i := i) (by omega) hp; omega) (by simp [bN]) (fun j _ _ hj => ?_)
        simp [bN, Ne.symm hj]
    have one : ∀ k', sN (fun i => bN (P i && decide (rk n P lt i = k'))) n 0 ≤ 1 := by
      intro k'
      by_cases z : ∃ i, i < n ∧ P i = true ∧ rk n P lt i = k'
      · obtain ⟨i, i1, i2, i3⟩ := z
        rw [sN_one n 0 i (by omega) (by omega) (by simp [bN, i2, i3]) (fun j _ j2 hj => by
          cases hp : P j with
          | false => rfl
          | true =>
            have hne : ¬ rk n P lt j = k' := fun y => hj (rk_inj h (by omega) i1 hp i2 (y.trans i3.symm))
            simp [bN, hne])]
        exact Nat.le_refl _
      · rw [sN_zero n 0 (fun i _ i2 => by
          cases hp : P i with
          | false => rfl
          | true =>
            have hne : ¬ rk n P lt i = k' := fun y => z ⟨i, by omega, hp, y⟩
            simp [bN, hne])]
        exact Nat.zero_le _
    have hlt := sN_lt (f := fun k => sN (fun i => bN (P i && decide (rk n P lt i = k))) n 0) (g := fun _ => 1) (nP n P) 0 (fun i _ _ => one i) ⟨k, by omega, by omega, by show sN (fun i => bN (P i && decide (rk n P lt i = k))) n 0 < 1; omega⟩
    rw [tot, sN_const] at hlt
    omega
end RANK
