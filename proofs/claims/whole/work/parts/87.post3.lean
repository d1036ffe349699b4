/-! The messages under way: what is sent. -/
theorem mtell_mpl (N : Nat → Nat → Nat) (a : Nat) : mpl (mtell N a) = mpl N ++ [(1000000 * 3 + 100000 * (a / 20) + 1000 * (a % 20) + 10 * 0 + (N 11 a - 1), 0), (1000000 * 3 + 100000 * (a / 20) + 1000 * (a % 20) + 10 * 1 + (N 11 a - 1), 0)] := by
  unfold mtell
  rw [mpost_mpl, mpost_mpl, if_neg (by decide), if_neg (by decide), List.append_assoc]
  rfl
