/-! Numbers, for the rows of level 2. -/
theorem zb_0 : (nI 0 = 0 ∨ nI 0 = 1) = True := by decide
theorem zb_1 : (nI 1 = 0 ∨ nI 1 = 1) = True := by decide
theorem zb_i0 (p : Prop) [Decidable p] : (nI (if p then 1 else 0) = nI 0) = ¬ p := by
  by_cases h : p <;> simp [h] <;> decide
theorem zb_i1 (p : Prop) [Decidable p] : (nI (if p then 1 else 0) = nI 1) = p := by
  by_cases h : p <;> simp [h] <;> decide
theorem zb_ij (p : Prop) [Decidable p] : (nI (if p then 1 else 0) = 0 ∨ nI (if p then 1 else 0) = 1) = True := by
  by_cases h : p <;> simp [h] <;> decide
theorem zlt {x : Nat} (h : x < 100000) : x < 2 ^ 31 := by omega
theorem zup_at (N : Nat → Nat → Nat) (j k x j' k' : Nat) : zup N j k x j' k' = if j' = j ∧ k' = k then x else N j' k' := rfl
theorem zvp_at (V : Nat → Nat → Int32) (j k : Nat) (x : Int32) (j' k' : Nat) : zvp V j k x j' k' = if j' = j ∧ k' = k then x else V j' k' := rfl
theorem zh_up {N : Nat → Nat → Nat} (hN : ∀ j k, N j k < 100000) {x : Nat} (hx : x < 100000) (j k : Nat) : ∀ j' k', zup N j k x j' k' < 100000 := by
  intro j' k'
  rw [zup_at]
  split
  · exact hx
  · exact hN _ _
theorem zn_z {n : Nat} (h : n < 2 ^ 31) : (nI n = 0) = (n = 0) := by
  rw [← nI_0]
  exact propext (nI_eq h (by decide))
theorem zn_o {n : Nat} (h : n < 2 ^ 31) : (nI n = 1) = (n = 1) := by
  rw [show (1 : Int32) = nI 1 from rfl]
  exact propext (nI_eq h (by decide))
theorem zb_ik (p : Prop) [Decidable p] : ((if p then 1 else 0 : Nat) = 0 ∨ (if p then 1 else 0 : Nat) = 1) = True := by
  by_cases h : p <;> simp [h]
theorem zn_m (a b : Nat) : a - a / b * b = a % b := by
  have := Nat.mod_add_div a b
  rw [Nat.mul_comm]
  omega
/-- an index, or none -/
theorem zin_of {x : Int32} {u : Nat} (hu : u < 2 ^ 31) (h1 : nI 0 ≤ x) (h2 : x ≤ nI u - nI 1) : ∃ n, n < u ∧ x = nI n := by
  obtain ⟨j, hj, rfl⟩ := nI_of (x := x) (by rw [Int32.not_lt]; exact h1)
  refine ⟨j, ?_, rfl⟩
  cases u with
  | zero =>
    have e : nI 0 - nI 1 < 0 := by decide
    have : nI j < 0 := Int32.lt_of_le_of_lt h2 e
    exact absurd this (nI_pos hj)
  | succ u =>
    rw [show nI (u + 1) - nI 1 = nI u from by rw [zn_sub (by omega)]; rfl] at h2
    have := (nI_leI hj (by omega)).mp h2
    omega
theorem zin_to {n u : Nat} (hu : u < 2 ^ 31) (h : n < u) : nI 0 ≤ nI n ∧ nI n ≤ nI u - nI 1 := by
  refine ⟨nI_pos' (by omega), ?_⟩
  rw [zn_sub (by omega)]
  exact (nI_leI (by omega) (by omega)).mpr (by omega)
theorem zin_iff {x : Int32} {u : Nat} (hu : u < 2 ^ 31) : (nI 0 ≤ x ∧ x ≤ nI u - nI 1) ↔ ∃ n, n < u ∧ x = nI n := ⟨fun h => zin_of hu h.1 h.2, fun ⟨n, h1, h2⟩ => h2 ▸ zin_to hu h1⟩
theorem zin_le {x : Int32} {u : Nat} (hu : u < 2 ^ 31 - 1) : (nI 0 ≤ x ∧ x ≤ nI u) ↔ ∃ n, n < u + 1 ∧ x = nI n := by
  have := zin_iff (x := x) (u := u + 1) (by omega)
  rw [show nI (u + 1) - nI 1 = nI u from by rw [zn_sub (by omega)]; rfl] at this
  exact this
theorem zin_lt {x : Int32} {u : Nat} (hu : u < 2 ^ 31) : (nI 0 ≤ x ∧ x < nI u) ↔ ∃ n, n < u ∧ x = nI n := by
  constructor
  · rintro ⟨h1, h2⟩
    obtain ⟨j, hj, rfl⟩ := nI_of (x := x) (by rw [Int32.not_lt]; exact h1)
    exact ⟨j, (nI_ltI hj hu).mp h2, rfl⟩
  · rintro ⟨n, h1, rfl⟩
    exact ⟨nI_pos' (by omega), (nI_ltI (by omega) hu).mpr h1⟩
theorem zn_rm (a b : Nat) : nI a - nI (a / b * b) = nI (a % b) := by
  rw [zn_sub (by rw [Nat.mul_comm]; exact Nat.mul_div_le a b), zn_m]
