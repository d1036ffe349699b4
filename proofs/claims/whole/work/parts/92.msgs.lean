/-! All messages keep F. -/
def mal (N : Nat → Nat → Nat) (F : Nat → Nat → Nat → Nat → Nat → Prop) : Prop := ∀ i, i < N 0 16 → F (N 15 i) (N 17 i) (N 18 i) (N 16 i) (N 19 i)
theorem mal_mono {N : Nat → Nat → Nat} {F G : Nat → Nat → Nat → Nat → Nat → Prop} (h : mal N F) (hG : ∀ k to a x w, F k to a x w → G k to a x w) : mal N G := fun i hi => hG _ _ _ _ _ (h i hi)
theorem mal_of {N N' : Nat → Nat → Nat} {F : Nat → Nat → Nat → Nat → Nat → Prop} (h : mal N F) (h0 : N' 0 16 = N 0 16) (hr : ∀ j q, 15 ≤ j → j ≤ 19 → N' j q = N j q) : mal N' F := by
  intro i hi
  rw [hr 15 i (by omega) (by omega), hr 16 i (by omega) (by omega), hr 17 i (by omega) (by omega), hr 18 i (by omega) (by omega), hr 19 i (by omega) (by omega)]
  exact h i (by omega)
theorem mpost_at (N : Nat → Nat → Nat) (k to a x w j q : Nat) : mpost N k to a x w j q = if j = 0 ∧ q = 16 then N 0 16 + 1 else if j = 19 ∧ q = N 0 16 then w else if j = 16 ∧ q = N 0 16 then x else if j = 18 ∧ q = N 0 16 then a else if j = 17 ∧ q = N 0 16 then to else if j = 15 ∧ q = N 0 16 then k else N j q := rfl
theorem mal_post {N : Nat → Nat → Nat} {F : Nat → Nat → Nat → Nat → Nat → Prop} (h : mal N F) {k to a x w : Nat} (hF : F k to a x w) : mal (mpost N k to a x w) F := by
  intro i hi
  rw [mpost_u] at hi
  simp only [mpost_at, Nat.reduceEqDiff, false_and, if_false, true_and]
  by_cases e : i = N 0 16
  · simp only [e, if_true]
    exact hF
  · simp only [e, if_false]
    exact h i (by omega)
theorem mtake_at (N : Nat → Nat → Nat) (i j q : Nat) : mtake N i j q = if (15 ≤ j ∧ j ≤ 19) ∧ i ≤ q ∧ q < N 0 16 - 1 then N j (q + 1) else if j = 0 ∧ q = 16 then N 0 16 - 1 else N j q := rfl
theorem mal_take {N : Nat → Nat → Nat} {F : Nat → Nat → Nat → Nat → Nat → Prop} (h : mal N F) (i : Nat) : mal (mtake N i) F := by
  intro q hq
  rw [mtake_u] at hq
  simp only [mtake_at, Nat.reduceLeDiff, true_and, Nat.reduceEqDiff, false_and, if_false]
  by_cases e : i ≤ q
  · simp only [e, hq, true_and, if_true]
    exact h (q + 1) (by omega)
  · simp only [e, false_and, if_false]
    exact h q (by omega)
theorem mtake_o (N : Nat → Nat → Nat) (i : Nat) {j : Nat} (q : Nat) (hj : ¬ (15 ≤ j ∧ j ≤ 19)) (hq : ¬ (j = 0 ∧ q = 16)) : mtake N i j q = N j q := by
  rw [mtake_at, if_neg (fun g => hj g.1), if_neg hq]
theorem mal_spr {N : Nat → Nat → Nat} {F : Nat → Nat → Nat → Nat → Nat → Prop} (h : mal N F) (a l : Nat) (hF : F 1 l a (N 10 a) (N 9 (a / 20))) : mal (mspr N a l) F := by
  unfold mspr
  split
  · exact mal_post h hF
  · exact h
theorem mal_spread {N : Nat → Nat → Nat} {F : Nat → Nat → Nat → Nat → Nat → Prop} (h : mal N F) (a : Nat) (hF : ∀ l, l < 3 → F 1 l a (N 10 a) (N 9 (a / 20))) : mal (mspread N a) F := by
  unfold mspread
  refine mal_spr (mal_spr (mal_spr h a 0 (hF 0 (by omega))) a 1 ?_) a 2 ?_
  · rw [mspr_o _ _ _ _ (by omega) (by omega), mspr_o _ _ _ _ (by omega) (by omega)]; exact hF 1 (by omega)
  · rw [mspr_o _ _ _ _ (by omega) (by omega), mspr_o _ _ _ _ (by omega) (by omega), mspr_o _ _ _ _ (by omega) (by omega), mspr_o _ _ _ _ (by omega) (by omega)]; exact hF 2 (by omega)
theorem mspread_u (N : Nat → Nat → Nat) (a : Nat) : mspread N a 0 16 ≤ N 0 16 + 3 := by
  unfold mspread
  rw [mspr_u, mspr_u, mspr_u]
  split <;> split <;> split <;> omega
theorem mal_tell {N : Nat → Nat → Nat} {F : Nat → Nat → Nat → Nat → Nat → Prop} (h : mal N F) (a : Nat) (hF : ∀ r, r < 2 → F 3 r a (N 11 a - 1) 0) : mal (mtell N a) F := by
  unfold mtell
  exact mal_post (mal_post h (hF 0 (by omega))) (hF 1 (by omega))
theorem mtell_u (N : Nat → Nat → Nat) (a : Nat) : mtell N a 0 16 = N 0 16 + 2 := by
  unfold mtell
  rw [mpost_u, mpost_u]
theorem mtell_o (N : Nat → Nat → Nat) (a : Nat) {j : Nat} (q : Nat) (hj : ¬ (15 ≤ j ∧ j ≤ 19)) (hq : ¬ (j = 0 ∧ q = 16)) : mtell N a j q = N j q := by
  unfold mtell
  rw [mpost_o _ _ _ _ _ _ _ hj hq, mpost_o _ _ _ _ _ _ _ hj hq]
theorem mal_msv {N : Nat → Nat → Nat} {F : Nat → Nat → Nat → Nat → Nat → Prop} (h : mal N F) (V : Nat → Nat → Int32) (r p t : Nat) : ∀ n, (∀ q, q < n → F 4 r t (4 * p + q) 0) → mal (msv N V r p t n) F
  | 0, _ => h
  | n + 1, hF => by
    rw [msv]
    split
    · exact mal_post (mal_msv h V r p t n (fun q hq => hF q (by omega))) (hF n (by omega))
    · exact mal_msv h V r p t n (fun q hq => hF q (by omega))
theorem mrm_o (r : Nat) {j : Nat} (q : Nat) (hj : ¬ (15 ≤ j ∧ j ≤ 19)) (hq : ¬ (j = 0 ∧ q = 16)) : ∀ n N, mrm r n N j q = N j q
  | 0, N => rfl
  | n + 1, N => by
    rw [mrm, mrm_o r q hj hq n]
    split
    · exact mtake_o N n q hj hq
    · rfl
theorem mrm_lt (r : Nat) : ∀ n N, (∀ j k, N j k < 100000) → ∀ j k, mrm r n N j k < 100000
  | 0, N, h => h
  | n + 1, N, h => by
    rw [mrm]
    refine mrm_lt r n _ ?_
    split
    · exact mtake_lt h n
    · exact h
theorem mrm_u (r : Nat) : ∀ n N, mrm r n N 0 16 ≤ N 0 16
  | 0, N => Nat.le_refl _
  | n + 1, N => by
    rw [mrm]
    refine Nat.le_trans (mrm_u r n _) ?_
    split
    · rw [mtake_u]; omega
    · exact Nat.le_refl _
theorem mal_rm (r : Nat) {F : Nat → Nat → Nat → Nat → Nat → Prop} : ∀ n N, n ≤ N 0 16 → (∀ i, n ≤ i → i < N 0 16 → ¬ (N 15 i = 4 ∧ N 17 i = r)) → mal N F → mal (mrm r n N) (fun k to a x w => F k to a x w ∧ ¬ (k = 4 ∧ to = r))
  | 0, N, _, h, hm => fun i hi => ⟨hm i hi, h i (by omega) hi⟩
  | n + 1, N, hn, h, hm => by
    rw [mrm]
    split
    · refine mal_rm r n _ (by rw [mtake_u]; omega) ?_ (mal_take hm n)
      intro i h1 h2
      rw [mtake_u] at h2
      rw [mtake_at, mtake_at, if_pos (by omega), if_pos (by omega)]
      exact h (i + 1) (by omega) (by omega)
    · refine mal_rm r n N (by omega) ?_ hm
      intro i h1 h2
      by_cases e : i = n
      · subst e; assumption
      · exact h i (by omega) h2
