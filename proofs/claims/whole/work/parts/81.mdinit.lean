/-! The reference: its constructor. -/
def mcl (k : Nat) : Nat := if k = 1 then 1 else if 3 ≤ k ∧ k ≤ 15 then k - 1 else if 17 ≤ k ∧ k ≤ 33 then k - 2 else 0
theorem zm_R_mcl (M k : Nat) : zm_R M k = if mcl k = 0 then none else some (M + mcl k) := by
  by_cases h : k < 34
  · have : ∀ k, k < 34 → zm_R M k = if mcl k = 0 then none else some (M + mcl k) := by
      intro k hk
      match k, hk with
      | 0, _ => rfl
      | 1, _ => rfl
      | 2, _ => rfl
      | 3, _ => rfl
      | 4, _ => rfl
      | 5, _ => rfl
      | 6, _ => rfl
      | 7, _ => rfl
      | 8, _ => rfl
      | 9, _ => rfl
      | 10, _ => rfl
      | 11, _ => rfl
      | 12, _ => rfl
      | 13, _ => rfl
      | 14, _ => rfl
      | 15, _ => rfl
      | 16, _ => rfl
      | 17, _ => rfl
      | 18, _ => rfl
      | 19, _ => rfl
      | 20, _ => rfl
      | 21, _ => rfl
      | 22, _ => rfl
      | 23, _ => rfl
      | 24, _ => rfl
      | 25, _ => rfl
      | 26, _ => rfl
      | 27, _ => rfl
      | 28, _ => rfl
      | 29, _ => rfl
      | 30, _ => rfl
      | 31, _ => rfl
      | 32, _ => rfl
      | 33, _ => rfl
      | n + 34, hk => exact absurd hk (by omega)
    exact this k h
  · have e : mcl k = 0 := by unfold mcl; rw [if_neg (by omega), if_neg (by omega), if_neg (by omega)]
    rw [e, if_pos rfl]
    unfold zm_R
    split <;> first | rfl | omega
/-- the reference with its first j arrays -/
def mq (M : Nat) (σ : zs_S) (j : Nat) : zs_S := (M + 1 + j, fun v => if M ≤ v ∧ v < M + 1 + j then zm_K (v - M) else zs_K σ v, fun v k => if M ≤ v ∧ v < M + 1 + j then nI 0 else zs_I σ v k, fun v k => if v = M then (if mcl k = 0 ∨ j < mcl k then none else some (M + mcl k)) else if M < v ∧ v < M + 1 + j then none else zs_R σ v k)
theorem mq_n (M : Nat) (σ : zs_S) (j : Nat) : zs_n (mq M σ j) = M + 1 + j := rfl
theorem mq_K (M : Nat) (σ : zs_S) (j : Nat) (q : Nat × Nat) : zs_K (zs_nw (mq M σ j) q) M = (8, 0) := by
  rw [zx_K_nw, mq_n, if_neg (by omega)]
  show (if M ≤ M ∧ M < M + 1 + j then zm_K (M - M) else _) = _
  rw [if_pos (by omega), Nat.sub_self]
  rfl
theorem mq_K0 (M : Nat) (σ : zs_S) (j : Nat) : zs_K (mq M σ j) M = (8, 0) := by
  show (if M ≤ M ∧ M < M + 1 + j then zm_K (M - M) else _) = _
  rw [if_pos (by omega), Nat.sub_self]
  rfl
theorem mq_s (M : Nat) (σ : zs_S) (j k : Nat) (q : Nat × Nat) (hq : q = zm_K (j + 1)) (hk : mcl k = j + 1) (hi : ∀ k', mcl k' = j + 1 → k' = k) : zs_pR (zs_nw (mq M σ j) q) M k (some (M + 1 + j)) = mq M σ (j + 1) := by
  refine zs_ext rfl ?_ (fun v y => ?_) (fun v y => ?_)
  · funext v
    show zs_K (zs_nw (mq M σ j) q) v = (if M ≤ v ∧ v < M + 1 + (j + 1) then zm_K (v - M) else zs_K σ v)
    rw [zx_K_nw, mq_n]
    by_cases g : v = M + 1 + j
    · rw [if_pos g, if_pos (by omega), hq]; congr 1; omega
    · rw [if_neg g]
      show (if M ≤ v ∧ v < M + 1 + j then zm_K (v - M) else zs_K σ v) = _
      by_cases g2 : M ≤ v ∧ v < M + 1 + j
      · rw [if_pos g2, if_pos (by omega)]
      · rw [if_neg g2, if_neg (by omega)]
  · rw [zx_I_pR, zx_I_nw, mq_n]
    show _ = (if M ≤ v ∧ v < M + 1 + (j + 1) then nI 0 else zs_I σ v y)
    by_cases g : v = M + 1 + j
    · rw [if_pos g, if_pos (by omega)]; rfl
    · rw [if_neg g]
      show (if M ≤ v ∧ v < M + 1 + j then nI 0 else zs_I σ v y) = _
      by_cases g2 : M ≤ v ∧ v < M + 1 + j
      · rw [if_pos g2, if_pos (by omega)]
      · rw [if_neg g2, if_neg (by omega)]
  · rw [zx_R_pR, zx_R_nw, mq_n]
    show _ = (if v = M then (if mcl y = 0 ∨ j + 1 < mcl y then none else some (M + mcl y)) else if M < v ∧ v < M + 1 + (j + 1) then none else zs_R σ v y)
    by_cases g : v = M ∧ y = k
    · obtain ⟨rfl, rfl⟩ := g
      rw [if_pos ⟨rfl, rfl⟩, if_pos rfl, hk, if_neg (by omega)]; congr 1; omega
    · rw [if_neg g]
      by_cases g1 : v = M + 1 + j
      · rw [if_pos g1, if_neg (by omega), if_pos (by omega)]
      · rw [if_neg g1]
        show (if v = M then (if mcl y = 0 ∨ j < mcl y then none else some (M + mcl y)) else if M < v ∧ v < M + 1 + j then none else zs_R σ v y) = _
        by_cases g2 : v = M
        · rw [if_pos g2, if_pos g2]
          have hy : ¬ mcl y = j + 1 := fun z => g ⟨g2, hi y z⟩
          by_cases g3 : mcl y = 0 ∨ j < mcl y
          · rw [if_pos g3, if_pos (by omega)]
          · rw [if_neg g3, if_neg (by omega)]
        · rw [if_neg g2, if_neg g2]
          by_cases g3 : M < v ∧ v < M + 1 + j
          · rw [if_pos g3, if_pos (by omega)]
          · rw [if_neg g3, if_neg (by omega)]
theorem mq_md (M : Nat) (σ : zs_S) : md M (mq M σ 31) (fun _ _ => 0) (fun _ _ => nI 0) = mq M σ 31 := by
  refine zs_ext rfl ?_ (fun v y => ?_) (fun v y => ?_)
  · funext v
    show (if M ≤ v ∧ v < M + 32 then zm_K (v - M) else zs_K (mq M σ 31) v) = zs_K (mq M σ 31) v
    by_cases g : M ≤ v ∧ v < M + 32
    · rw [if_pos g]
      show _ = (if M ≤ v ∧ v < M + 1 + 31 then zm_K (v - M) else zs_K σ v)
      rw [if_pos (by omega)]
    · rw [if_neg g]
  · show (if M ≤ v ∧ v < M + 32 then (if zm_raw (v - M) then nI 0 else nI 0) else zs_I (mq M σ 31) v y) = zs_I (mq M σ 31) v y
    by_cases g : M ≤ v ∧ v < M + 32
    · rw [if_pos g, ite_self]
      show _ = (if M ≤ v ∧ v < M + 1 + 31 then nI 0 else zs_I σ v y)
      rw [if_pos (by omega)]
    · rw [if_neg g]
  · show (if v = M then zm_R M y else zs_R (mq M σ 31) v y) = zs_R (mq M σ 31) v y
    by_cases g : v = M
    · rw [if_pos g, zm_R_mcl]
      show _ = (if v = M then (if mcl y = 0 ∨ 31 < mcl y then none else some (M + mcl y)) else _)
      rw [if_pos g]
      have hb : mcl y ≤ 31 := by unfold mcl; split <;> (try split) <;> (try split) <;> omega
      by_cases g3 : mcl y = 0
      · rw [if_pos g3, if_pos (Or.inl g3)]
      · rw [if_neg g3, if_neg (by omega)]
    · rw [if_neg g]
