/-! The messages under way, on both sides, as one list. -/
theorem ctake_cpl (σ : zs_S) (L : List (Nat × Nat)) (i : Nat) (hi : i < L.length) (h : cpl σ L) : cpl (ctake σ L.length i (L.length - 1)) (L.eraseIdx i) := by
  obtain ⟨h1, h2⟩ := h
  have hl : (L.eraseIdx i).length = L.length - 1 := List.length_eraseIdx_of_lt hi
  refine ⟨by rw [ctake_I, if_neg (by decide), if_neg (by decide), if_pos ⟨rfl, rfl⟩, hl], fun j c x z => ?_⟩
  have hj : j < L.length - 1 := by rw [← hl]; exact (List.getElem?_eq_some_iff.mp z).1
  rw [List.getElem?_eraseIdx] at z
  by_cases g : j < i
  · rw [if_pos g] at z
    refine ⟨?_, ?_⟩
    · rw [ctake_I, if_neg (by decide), if_pos rfl]
      unfold cshf
      rw [if_neg (by omega)]
      exact (h2 j c x z).1
    · rw [ctake_I, if_pos rfl]
      unfold cshf
      rw [if_neg (by omega)]
      exact (h2 j c x z).2
  · rw [if_neg g] at z
    refine ⟨?_, ?_⟩
    · rw [ctake_I, if_neg (by decide), if_pos rfl]
      unfold cshf
      rw [if_pos (by omega)]
      exact (h2 (j + 1) c x z).1
    · rw [ctake_I, if_pos rfl]
      unfold cshf
      rw [if_pos (by omega)]
      exact (h2 (j + 1) c x z).2
/-- the reference's messages -/
def mpl (N : Nat → Nat → Nat) : List (Nat × Nat) := (List.range (N 0 16)).map (fun i => (mcode N i, N 19 i))
theorem mpl_len (N : Nat → Nat → Nat) : (mpl N).length = N 0 16 := by unfold mpl; rw [List.length_map, List.length_range]
theorem mpl_at (N : Nat → Nat → Nat) (i : Nat) (h : i < N 0 16) : (mpl N)[i]? = some (mcode N i, N 19 i) := by
  unfold mpl
  rw [List.getElem?_map, List.getElem?_range h]
  rfl
theorem mpl_of {N N' : Nat → Nat → Nat} (h0 : N' 0 16 = N 0 16) (h : ∀ i, i < N 0 16 → mcode N' i = mcode N i ∧ N' 19 i = N 19 i) : mpl N' = mpl N := by
  unfold mpl
  rw [h0]
  refine List.map_congr_left (fun i hi => ?_)
  obtain ⟨a, b⟩ := h i (List.mem_range.mp hi)
  rw [a, b]
theorem mcode_of {N N' : Nat → Nat → Nat} {i j : Nat} (h : ∀ m, 15 ≤ m → m ≤ 18 → N' m i = N m j) : mcode N' i = mcode N j := by
  unfold mcode
  rw [h 15 (by decide) (by decide), h 16 (by decide) (by decide), h 17 (by decide) (by decide), h 18 (by decide) (by decide)]
theorem mpost_mpl (N : Nat → Nat → Nat) (k to at_ x more : Nat) : mpl (mpost N k to at_ x more) = mpl N ++ [(if k = 4 then 4000000 + 100000 * to + 1000 * at_ + 10 * (x / 4) + x % 4 else 1000000 * k + 100000 * (at_ / 20) + 1000 * (at_ % 20) + 10 * to + x, more)] := by
  have hu := mpost_u N k to at_ x more
  have old : ∀ m i, 15 ≤ m → m ≤ 19 → i < N 0 16 → mpost N k to at_ x more m i = N m i := fun m i a b c => by
    unfold mpost
    simp only [zup_at]
    rw [if_neg (by omega), if_neg (by omega), if_neg (by omega), if_neg (by omega), if_neg (by omega), if_neg (by omega)]
  unfold mpl
  rw [hu, List.range_succ, List.map_append]
  congr 1
  · refine List.map_congr_left (fun i hi => ?_)
    have hi' := List.mem_range.mp hi
    rw [mcode_of (N := N) (j := i) (fun m a b => old m i a (by omega) hi'), old 19 i (by decide) (by decide) hi']
  · simp only [List.map_cons, List.map_nil]
    have n15 : mpost N k to at_ x more 15 (N 0 16) = k := by simp [mpost, zup_at]
    have n16 : mpost N k to at_ x more 16 (N 0 16) = x := by simp [mpost, zup_at]
    have n17 : mpost N k to at_ x more 17 (N 0 16) = to := by simp [mpost, zup_at]
    have n18 : mpost N k to at_ x more 18 (N 0 16) = at_ := by simp [mpost, zup_at]
    have n19 : mpost N k to at_ x more 19 (N 0 16) = more := by simp [mpost, zup_at]
    unfold mcode
    rw [n15, n16, n17, n18, n19]
