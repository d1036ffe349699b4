/-! The messages under way: what is sent. -/
theorem mtell_mpl (N : Nat → Nat → Nat) (a : Nat) : mpl (mtell N a) = mpl N ++ [(1000000 * 3 + 100000 * (a / 20) + 1000 * (a % 20) + 10 * 0 + (N 11 a - 1), 0), (1000000 * 3 + 100000 * (a / 20) + 1000 * (a % 20) + 10 * 1 + (N 11 a - 1), 0)] := by
  unfold mtell
  rw [mpost_mpl, mpost_mpl, if_neg (by decide), if_neg (by decide), List.append_assoc]
  rfl
theorem mspr_mpl (N : Nat → Nat → Nat) (a l : Nat) : mpl (mspr N a l) = mpl N ++ (if N 12 a / 2 ^ l % 2 = 0 then [(1000000 * 1 + 100000 * (a / 20) + 1000 * (a % 20) + 10 * l + N 10 a, N 9 (a / 20))] else []) := by
  unfold mspr
  split
  · rw [mpost_mpl, if_neg (by decide)]
  · rw [List.append_nil]
theorem mspread_mpl (N : Nat → Nat → Nat) (a : Nat) : mpl (mspread N a) = mpl N ++ cstl (a / 20) (a % 20) (N 10 a) (N 9 (a / 20)) (fun l => N 12 a / 2 ^ l % 2) 3 := by
  have o : ∀ (N : Nat → Nat → Nat) (l j q : Nat), (j = 9 ∨ j = 10 ∨ j = 12) → mspr N a l j q = N j q := fun N l j q h => mspr_o N a l q (by omega) (by omega)
  unfold mspread
  rw [mspr_mpl, mspr_mpl, mspr_mpl]
  simp only [o _ _ 12 _ (Or.inr (Or.inr rfl)), o _ _ 10 _ (Or.inr (Or.inl rfl)), o _ _ 9 _ (Or.inl rfl)]
  rw [cstl_s, cstl_s, cstl_s, show cstl (a / 20) (a % 20) (N 10 a) (N 9 (a / 20)) (fun l => N 12 a / 2 ^ l % 2) 0 = [] from rfl, List.nil_append, List.append_assoc, List.append_assoc, List.append_assoc]
