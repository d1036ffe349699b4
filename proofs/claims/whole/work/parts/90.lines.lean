/-! The reference's log as a list. -/
theorem nodup_le : ∀ (n : Nat) (l : List Nat), l.Nodup → (∀ x, x ∈ l → x < n) → l.length ≤ n
  | 0, l, _, h => by
    cases l with
    | nil => exact Nat.le_refl _
    | cons a l => exact absurd (h a List.mem_cons_self) (Nat.not_lt_zero a)
  | n + 1, l, hd, h => by
    have h1 := nodup_le n (l.erase n) (hd.erase n) (fun x hx => by
      have g := (hd.mem_erase_iff).mp hx
      have := h x g.2
      omega)
    rw [List.length_erase] at h1
    split at h1 <;> omega
theorem filt_range {p q : Nat → Bool} {T : Nat} (h : ∀ t, t < T → p t = q t) : ∀ d, (∀ t, T ≤ t → t < T + d → p t = false) → (List.range (T + d)).filter p = (List.range T).filter q
  | 0, _ => List.filter_congr (fun t ht => h t (List.mem_range.mp ht))
  | d + 1, hd => by
    rw [← Nat.add_assoc, List.range_succ, List.filter_append, filt_range h d (fun t a b => hd t a (by omega))]
    rw [List.filter_cons, hd (T + d) (by omega) (by omega)]
    simp
theorem mC_filter (p : Nat → Bool) : ∀ n, mC p n = ((List.range n).filter p).length
  | 0 => rfl
  | n + 1 => by
    rw [mC_s, mC_filter p n, List.range_succ, List.filter_append, List.length_append, List.filter_cons]
    split <;> simp
def mcat (N : Nat → Nat → Nat) (V : Nat → Nat → Int32) : Nat → List Nat
  | 0 => []
  | m + 1 => mcat N V m ++ mpart N V m
theorem mlay_cat (N : Nat → Nat → Nat) (V : Nat → Nat → Int32) (r : Nat) : ∀ m n k, (∀ j, j < m → ¬ N 20 (40 * r + mat (k + j)) = 0) → mcat N V k ++ mlay N V r (m + n) k = mcat N V (k + m) ++ mlay N V r n (k + m)
  | 0, n, k, _ => by rw [Nat.zero_add, Nat.add_zero]
  | m + 1, n, k, h => by
    have h0 := h 0 (by omega)
    rw [show m + 1 + n = (m + n) + 1 by omega, mlay, if_neg (by simpa using h0), ← List.append_assoc]
    have := mlay_cat N V r m n (k + 1) (fun j hj => by have := h (j + 1) (by omega); rw [show k + 1 + j = k + (j + 1) by omega]; exact this)
    rw [show mcat N V k ++ mpart N V k = mcat N V (k + 1) from rfl, this, show k + 1 + m = k + (m + 1) by omega]
theorem mline_cat {N : Nat → Nat → Nat} {V : Nat → Nat → Int32} {r s0 : Nat} (h40 : s0 ≤ 40) (hk : ∀ k, k < s0 → ¬ N 20 (40 * r + mat k) = 0) (he : s0 = 40 ∨ N 20 (40 * r + mat s0) = 0) : mline N V r = mcat N V s0 := by
  have h := mlay_cat N V r s0 (40 - s0) 0 (fun j hj => by rw [Nat.zero_add]; exact hk j hj)
  rw [show s0 + (40 - s0) = 40 by omega, Nat.zero_add] at h
  have e : mlay N V r (40 - s0) s0 = [] := by
    rcases he with he | he
    · subst he; rfl
    · cases h2 : 40 - s0 with
      | zero => rfl
      | succ n => rw [mlay, if_pos he]
  rw [e, List.append_nil] at h
  exact h
theorem mfu_ex (N : Nat → Nat → Nat) (r : Nat) : ∃ s0, s0 ≤ 40 ∧ (∀ k, k < s0 → ¬ N 20 (40 * r + mat k) = 0) ∧ (s0 = 40 ∨ N 20 (40 * r + mat s0) = 0) := by
  have : ∀ n, n ≤ 40 → (∀ k, k < n → ¬ N 20 (40 * r + mat k) = 0) ∨ ∃ s0, s0 ≤ 40 ∧ (∀ k, k < s0 → ¬ N 20 (40 * r + mat k) = 0) ∧ (s0 = 40 ∨ N 20 (40 * r + mat s0) = 0) := by
    intro n
    induction n with
    | zero => intro _; exact Or.inl (fun k hk => absurd hk (Nat.not_lt_zero k))
    | succ n ih =>
      intro hn
      rcases ih (by omega) with h | h
      · by_cases g : N 20 (40 * r + mat n) = 0
        · exact Or.inr ⟨n, by omega, h, Or.inr g⟩
        · refine Or.inl (fun k hk => ?_)
          by_cases e : k = n
          · subst e; exact g
          · exact h k (by omega)
      · exact Or.inr h
  rcases this 40 (Nat.le_refl _) with h | h
  · exact ⟨40, Nat.le_refl _, h, Or.inl rfl⟩
  · exact h
theorem mpart_mem {N : Nat → Nat → Nat} {V : Nat → Nat → Int32} {k t : Nat} (h : t ∈ mpart N V k) : t < N 0 2 ∧ V 7 t = nI (k / 2) ∧ N 6 t = k % 2 ∧ N 11 (mat k) = 1 := by
  unfold mpart at h
  split at h
  · unfold mbat at h
    simp only [List.mem_filter, List.mem_range, decide_eq_true_eq] at h
    exact ⟨h.1, h.2.1, h.2.2, by assumption⟩
  · simp at h
theorem mcat_mem {N : Nat → Nat → Nat} {V : Nat → Nat → Int32} {t : Nat} : ∀ {m : Nat}, t ∈ mcat N V m → ∃ k, k < m ∧ t ∈ mpart N V k
  | 0, h => by simp [mcat] at h
  | m + 1, h => by
    rw [mcat, List.mem_append] at h
    rcases h with h | h
    · obtain ⟨k, a, b⟩ := mcat_mem h
      exact ⟨k, by omega, b⟩
    · exact ⟨m, by omega, h⟩
theorem mcat_nodup (N : Nat → Nat → Nat) (V : Nat → Nat → Int32) : ∀ m, m ≤ 40 → (mcat N V m).Nodup
  | 0, _ => List.nodup_nil
  | m + 1, hm => by
    rw [mcat, List.nodup_append]
    refine ⟨mcat_nodup N V m (by omega), ?_, ?_⟩
    · unfold mpart
      split
      · exact List.Pairwise.filter _ List.nodup_range
      · exact List.nodup_nil
    · intro a ha b hb e
      subst e
      obtain ⟨k, hk, h1⟩ := mcat_mem ha
      have a1 := mpart_mem h1
      have a2 := mpart_mem hb
      have : nI (k / 2) = nI (m / 2) := by rw [← a1.2.1, ← a2.2.1]
      have := (nI_eq (by omega) (by omega)).mp this
      have h6 := a1.2.2.1
      have h7 := a2.2.2.1
      omega
theorem mline_ex (N : Nat → Nat → Nat) (V : Nat → Nat → Int32) (r : Nat) : ∃ s0, s0 ≤ 40 ∧ (∀ k, k < s0 → ¬ N 20 (40 * r + mat k) = 0) ∧ (s0 = 40 ∨ N 20 (40 * r + mat s0) = 0) ∧ mline N V r = mcat N V s0 := by
  obtain ⟨s0, a, b, c⟩ := mfu_ex N r
  exact ⟨s0, a, b, c, mline_cat a b c⟩
theorem mline_nodup (N : Nat → Nat → Nat) (V : Nat → Nat → Int32) (r : Nat) : (mline N V r).Nodup := by
  obtain ⟨s0, a, b, c, d⟩ := mline_ex N V r
  rw [d]; exact mcat_nodup N V s0 a
theorem mline_mem {N : Nat → Nat → Nat} {V : Nat → Nat → Int32} {r t : Nat} (h : t ∈ mline N V r) : t < N 0 2 ∧ ∃ k, k < 40 ∧ V 7 t = nI (k / 2) ∧ N 6 t = k % 2 ∧ N 11 (mat k) = 1 ∧ ¬ N 20 (40 * r + mat k) = 0 := by
  obtain ⟨s0, a, b, c, d⟩ := mline_ex N V r
  rw [d] at h
  obtain ⟨k, hk, h1⟩ := mcat_mem h
  have := mpart_mem h1
  exact ⟨this.1, k, by omega, this.2.1, this.2.2.1, this.2.2.2, b k hk⟩
theorem mline_len (N : Nat → Nat → Nat) (V : Nat → Nat → Int32) (r : Nat) : (mline N V r).length ≤ N 0 2 := nodup_le _ _ (mline_nodup N V r) (fun _ h => (mline_mem h).1)
theorem mcat_congr {N N' : Nat → Nat → Nat} {V V' : Nat → Nat → Int32} : ∀ m, (∀ k, k < m → mpart N' V' k = mpart N V k) → mcat N' V' m = mcat N V m
  | 0, _ => rfl
  | m + 1, h => by rw [mcat, mcat, mcat_congr m (fun k hk => h k (by omega)), h m (by omega)]
theorem mline_congr {N N' : Nat → Nat → Nat} {V V' : Nat → Nat → Int32} {r : Nat} (h20 : ∀ k, k < 40 → N' 20 (40 * r + mat k) = N 20 (40 * r + mat k)) (hp : ∀ k, k < 40 → ¬ N 20 (40 * r + mat k) = 0 → mpart N' V' k = mpart N V k) : mline N' V' r = mline N V r := by
  obtain ⟨s0, a, b, c, d⟩ := mline_ex N V r
  rw [d, mline_cat (s0 := s0) a (fun k hk => by rw [h20 k (by omega)]; exact b k hk) (by
    rcases c with c | c
    · exact Or.inl c
    · by_cases e : s0 = 40
      · exact Or.inl e
      · right; rw [h20 s0 (by omega)]; exact c)]
  exact mcat_congr s0 (fun k hk => hp k (by omega) (b k hk))
theorem mbat_congr {N N' : Nat → Nat → Nat} {V V' : Nat → Nat → Int32} {k T : Nat} (d : Nat) (h1 : ∀ t, t < T → ((V' 7 t = nI (k / 2) ∧ N' 6 t = k % 2) ↔ (V 7 t = nI (k / 2) ∧ N 6 t = k % 2))) (h2 : ∀ t, T ≤ t → t < T + d → ¬ V' 7 t = nI (k / 2)) : mbat N' V' k (T + d) = mbat N V k T :=
  filt_range (fun t ht => decide_eq_decide.mpr (h1 t ht)) d (fun t a b => decide_eq_false (fun g => h2 t a b g.1))
theorem mpart_congr {N N' : Nat → Nat → Nat} {V V' : Nat → Nat → Int32} {k : Nat} (h11 : N' 11 (mat k) = N 11 (mat k)) (hb : mbat N' V' k (N' 0 2) = mbat N V k (N 0 2)) : mpart N' V' k = mpart N V k := by
  unfold mpart
  rw [h11, hb]
