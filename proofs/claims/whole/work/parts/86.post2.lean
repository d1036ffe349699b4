/-! The messages under way: one is taken out. -/
theorem mtake_mpl (N : Nat → Nat → Nat) (i : Nat) (hi : i < N 0 16) : mpl (mtake N i) = (mpl N).eraseIdx i := by
  have hu := mtake_u N i
  have hm : ∀ m q, 15 ≤ m → m ≤ 19 → q < N 0 16 - 1 → mtake N i m q = if i ≤ q then N m (q + 1) else N m q := fun m q a b c => by
    unfold mtake
    rw [mshift_at]
    by_cases g : i ≤ q
    · rw [if_pos (by omega), if_pos g]
    · rw [if_neg (by omega), if_neg (by omega), if_neg g]
  refine List.ext_getElem? (fun j => ?_)
  rw [List.getElem?_eraseIdx]
  by_cases hj : j < N 0 16 - 1
  · rw [mpl_at _ _ (by rw [hu]; exact hj)]
    by_cases g : j < i
    · have g' : ¬ i ≤ j := by omega
      rw [if_pos g, mpl_at _ _ (by omega), mcode_of (N := N) (j := j) (fun m a b => by rw [hm m j a (by omega) hj, if_neg g']), hm 19 j (by decide) (by decide) hj, if_neg g']
    · have g' : i ≤ j := by omega
      rw [if_neg g, mpl_at _ _ (by omega), mcode_of (N := N) (j := j + 1) (fun m a b => by rw [hm m j a (by omega) hj, if_pos g']), hm 19 j (by decide) (by decide) hj, if_pos g']
  · rw [List.getElem?_eq_none (by rw [mpl_len, hu]; omega), if_neg (by omega), List.getElem?_eq_none (by rw [mpl_len]; omega)]
