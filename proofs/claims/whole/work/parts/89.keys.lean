/-! Sets of keys as numbers. -/
def kbm (X : Nat → Bool) : Nat → Nat
  | 0 => 0
  | n + 1 => kbm X n ||| (if X n then 2 ^ n else 0)
theorem kbm_tb (X : Nat → Bool) (k : Nat) : ∀ n, (kbm X n).testBit k = (decide (k < n) && X k)
  | 0 => by simp [kbm]
  | n + 1 => by
    rw [kbm, Nat.testBit_or, kbm_tb X k n]
    by_cases h : X n = true
    · rw [if_pos h, Nat.testBit_two_pow]
      by_cases e : n = k
      · subst e; simp [h]
      · have : (k < n + 1) ↔ k < n := by omega
        simp [e, this]
    · rw [if_neg h, Nat.zero_testBit]
      by_cases e : n = k
      · subst e; simp [h]
      · have : (k < n + 1) ↔ k < n := by omega
        simp [this]
theorem kbm_lt (X : Nat → Bool) : ∀ n, kbm X n < 2 ^ n
  | 0 => Nat.zero_lt_one
  | n + 1 => by
    rw [kbm]
    refine Nat.or_lt_two_pow (Nat.lt_trans (kbm_lt X n) (by rw [Nat.pow_succ]; have := Nat.two_pow_pos n; omega)) ?_
    split
    · rw [Nat.pow_succ]; have := Nat.two_pow_pos n; omega
    · exact Nat.two_pow_pos _
def kset (X : Nat → Bool) : Int32 := nI (kbm X 12)
theorem kset_b (X : Nat → Bool) : (kset X).toBitVec = BitVec.ofNat 32 (kbm X 12) := rfl
theorem kset_l (X : Nat → Bool) (k : Nat) : (kset X).toBitVec.getLsbD k = (decide (k < 12) && X k) := by
  rw [kset_b, BitVec.getLsbD_ofNat, kbm_tb]
  by_cases h : k < 12
  · simp [h]; omega
  · simp [h]
theorem kset_e {x y : Int32} (h : ∀ k, k < 32 → x.toBitVec.getLsbD k = y.toBitVec.getLsbD k) : x = y := by
  apply Int32.toBitVec_inj.mp
  apply BitVec.eq_of_getLsbD_eq
  intro i hi
  exact h i hi
theorem kset_ext {X Y : Nat → Bool} (h : ∀ k, k < 12 → X k = Y k) : kset X = kset Y := by
  apply kset_e
  intro k _
  rw [kset_l, kset_l]
  by_cases g : k < 12
  · rw [h k g]
  · simp [g]
theorem kset_and (X Y : Nat → Bool) : kset X &&& kset Y = kset (fun k => X k && Y k) := by
  apply kset_e
  intro k _
  rw [Int32.toBitVec_and, BitVec.getLsbD_and, kset_l, kset_l, kset_l]
  cases decide (k < 12) <;> simp
theorem kset_or (X Y : Nat → Bool) : kset X ||| kset Y = kset (fun k => X k || Y k) := by
  apply kset_e
  intro k _
  rw [Int32.toBitVec_or, BitVec.getLsbD_or, kset_l, kset_l, kset_l]
  cases decide (k < 12) <;> simp
theorem kset_0 (X : Nat → Bool) : kset X = nI 0 ↔ ∀ k, k < 12 → X k = false := by
  constructor
  · intro h k hk
    have := kset_l X k
    rw [h] at this
    have z : (nI 0).toBitVec.getLsbD k = false := by
      show (BitVec.ofNat 32 0).getLsbD k = false
      simp
    rw [z] at this
    simpa [hk] using this.symm
  · intro h
    rw [kset_ext (Y := fun _ => false) h]
    decide
theorem kset_1 : ∀ k, k < 12 → nI 1 <<< (nI k &&& 31) = kset (fun j => j == k) := by decide
theorem kset_not (X Y : Nat → Bool) : kset X &&& (kset Y ^^^ -1) = nI 0 ↔ ∀ k, k < 12 → X k = true → Y k = true := by
  have e : kset X &&& (kset Y ^^^ -1) = kset (fun k => X k && !Y k) := by
    apply kset_e
    intro k hk
    rw [Int32.toBitVec_and, BitVec.getLsbD_and, Int32.toBitVec_xor, BitVec.getLsbD_xor, kset_l, kset_l, kset_l]
    have z : (-1 : Int32).toBitVec.getLsbD k = true := by
      show (BitVec.allOnes 32).getLsbD k = true
      rw [BitVec.getLsbD_allOnes]; simpa using hk
    rw [z]
    cases decide (k < 12) <;> simp
  rw [e, kset_0]
  constructor
  · intro h k hk hx
    have := h k hk
    rw [hx] at this
    simpa using this
  · intro h k hk
    cases hx : X k with
    | false => rfl
    | true => rw [h k hk hx]; rfl
theorem kset_cky (P p : Nat) (h0 : 0 < P) (h4 : P ≤ 4) (hp : p < P) : cky P p 12 = kset (fun k => k % P == p) := by
  have : ∀ P, P < 5 → ∀ p, p < P → 0 < P → cky P p 12 = kset (fun k => k % P == p) := by decide
  exact this P (by omega) p hp h0
