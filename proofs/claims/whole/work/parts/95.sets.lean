/-! What the class computes with sets of keys is what the reference computes. -/
theorem take_map (W : List Nat) (j : Nat) (h : j ≤ W.length) : W.take j = (List.range j).map (fun i => W[i]?.getD 0) := by
  apply List.ext_getElem?
  intro i
  rw [List.getElem?_take, List.getElem?_map]
  by_cases g : i < j
  · rw [if_pos g, List.getElem?_range g, Option.map_some, List.getElem?_eq_getElem (by omega)]
    rfl
  · rw [if_neg g, List.getElem?_eq_none (by rw [List.length_range]; omega)]
    rfl
theorem mC_list (g : Nat → Bool) (W : List Nat) : mC (fun j => g (W[j]?.getD 0)) W.length = (W.filter g).length := by
  have e : W = (List.range W.length).map (fun i => W[i]?.getD 0) := by
    have := take_map W W.length (Nat.le_refl _)
    rw [List.take_length] at this
    exact this
  have h : (W.filter g).length = (((List.range W.length).map (fun i => W[i]?.getD 0)).filter g).length := by rw [← e]
  rw [h, mC_filter, List.filter_map, List.length_map]
  rfl
theorem mE_set (X : Nat → Bool) (P p : Nat) : mE X P p p = true ↔ ∃ k, k < 12 ∧ X k = true ∧ k % P = p := by
  rw [mE_iff]
  constructor
  · rintro ⟨j, _, h2, h3, h4⟩; exact ⟨j, h2, h4, h3⟩
  · rintro ⟨j, h2, h4, h3⟩
    exact ⟨j, by rw [← h3]; exact Nat.mod_le _ _, h2, h3, h4⟩
theorem kset_E (X : Nat → Bool) (P p : Nat) : kset X &&& kset (fun k => k % P == p) = nI 0 ↔ mE X P p p = false := by
  rw [kset_and, kset_0]
  constructor
  · intro h
    rw [← Bool.not_eq_true, mE_set]
    rintro ⟨k, h1, h2, h3⟩
    have := h k h1
    simp [h2, h3] at this
  · intro h k hk
    rw [← Bool.not_eq_true, mE_set] at h
    cases hX : X k with
    | false => rfl
    | true =>
      by_cases g : k % P = p
      · exact absurd ⟨k, hk, hX, g⟩ h
      · simp [g]
theorem cex_Q {ρ : zs_S} {N : Nat → Nat → Nat} {V : Nat → Nat → Int32} {P p v w t u : Nat} (hP : N 0 0 = P) (v5 : zs_I ρ v 5 = kset (mR N V u)) (v6 : zs_I ρ v 6 = kset (mW N V u)) (w5 : zs_I ρ w 5 = kset (mR N V t)) (w6 : zs_I ρ w 6 = kset (mW N V t)) : cex ρ (kset (fun k => k % P == p)) v w = mQ N V p t u := by
  unfold cex mQ
  rw [v5, v6, w5, w6, kset_or, kset_and, kset_and, kset_and, kset_and, hP, Bool.eq_iff_iff, decide_eq_true_eq, kset_0, kset_0, mE_set]
  constructor
  · intro h
    apply Classical.byContradiction
    intro g
    apply h
    constructor
    · intro k hk
      rw [← Bool.not_eq_true]
      intro q
      simp only [Bool.and_eq_true, beq_iff_eq, Bool.or_eq_true] at q
      apply g
      refine ⟨k, hk, ?_, q.2.1⟩
      simp only [Bool.and_eq_true, Bool.or_eq_true]
      exact ⟨⟨q.2.2, Or.inr q.1⟩, Or.inr q.1⟩
    · intro k hk
      rw [← Bool.not_eq_true]
      intro q
      simp only [Bool.and_eq_true, beq_iff_eq] at q
      apply g
      refine ⟨k, hk, ?_, q.2.1⟩
      simp only [Bool.and_eq_true, Bool.or_eq_true]
      exact ⟨⟨Or.inr q.2.2, Or.inl q.1⟩, Or.inl q.2.2⟩
  · rintro ⟨k, hk, h1, h2⟩ ⟨g1, g2⟩
    have a1 := g1 k hk
    have a2 := g2 k hk
    simp only [h2, beq_self_eq_true, Bool.true_and] at a1 a2
    cases e1 : mW N V u k <;> cases e2 : mR N V u k <;> cases e3 : mW N V t k <;> cases e4 : mR N V t k <;> simp [e1, e2, e3, e4] at a1 a2 h1
theorem crdy_mri {ρ : zs_S} {N : Nat → Nat → Nat} {V : Nat → Nat → Int32} {P r p : Nat} {C : Nat → Nat} (W : List Nat) (hP : N 0 0 = P) (h : ∀ t, t ∈ W → zs_I ρ (C t) 5 = kset (mR N V t) ∧ zs_I ρ (C t) 6 = kset (mW N V t)) (j : Nat) (hj : j < W.length) : crdy ρ (kset (fun k => k % P == p)) (fun i => C (W[i]?.getD 0)) (fun i => N 26 (400 * r + 100 * p + W[i]?.getD 0)) j = mri (mlkd N r p) (mQ N V p) W j := by
  have e0 : W[j]? = some W[j] := List.getElem?_eq_getElem hj
  have ed : W[j]?.getD 0 = W[j] := by rw [e0]; rfl
  unfold crdy mri
  simp only [ed]
  rw [e0]
  simp only
  unfold mrdy mlkd
  rw [take_map W j (by omega), List.all_map]
  have e1 : decide (N 26 (400 * r + 100 * p + W[j]) = 0) = !decide (¬ N 26 (400 * r + 100 * p + W[j]) = 0) := by
    by_cases g : N 26 (400 * r + 100 * p + W[j]) = 0 <;> simp [g]
  rw [← e1, Bool.true_and]
  congr 1
  rw [Bool.eq_iff_iff, List.all_eq_true, List.all_eq_true]
  have key : ∀ i, i < j → cex ρ (kset (fun k => k % P == p)) (C (W[i]?.getD 0)) (C W[j]) = mQ N V p W[j] (W[i]?.getD 0) := by
    intro i hi
    have hi' : i < W.length := by omega
    have e2 : W[i]? = some W[i] := List.getElem?_eq_getElem hi'
    rw [e2]
    simp only [Option.getD_some]
    exact cex_Q hP (h _ (List.getElem_mem hi')).1 (h _ (List.getElem_mem hi')).2 (h _ (List.getElem_mem hj)).1 (h _ (List.getElem_mem hj)).2
  constructor
  · intro g i hi
    have hi' := List.mem_range.mp hi
    have := g i hi
    rw [key i hi'] at this
    simpa using this
  · intro g i hi
    have hi' := List.mem_range.mp hi
    have := g i hi
    rw [key i hi']
    simpa using this
theorem clkp_k {ρ : zs_S} {N : Nat → Nat → Nat} {V : Nat → Nat → Int32} {f : Nat → Nat} {j t k : Nat} (hk : k < 12) (h5 : zs_I ρ (f j) 5 = kset (mR N V t)) (h6 : zs_I ρ (f j) 6 = kset (mW N V t)) : clkp ρ f (nI 1 <<< (nI k &&& 31)) j = (mR N V t k || mW N V t k) := by
  unfold clkp
  rw [h5, h6, kset_1 k hk, kset_and, kset_and, Bool.eq_iff_iff, decide_eq_true_eq, kset_0, kset_0, Bool.or_eq_true]
  constructor
  · intro h
    apply Classical.byContradiction
    intro g
    apply h
    constructor <;> intro i hi <;> by_cases e : i = k
    · subst e
      rw [← Bool.not_eq_true]
      intro q
      simp at q
      exact g (Or.inl q)
    · simp [e]
    · subst e
      rw [← Bool.not_eq_true]
      intro q
      simp at q
      exact g (Or.inr q)
    · simp [e]
  · rintro h ⟨g1, g2⟩
    have a1 := g1 k hk
    have a2 := g2 k hk
    simp at a1 a2
    rcases h with h | h
    · rw [h] at a1; simp at a1
    · rw [h] at a2; simp at a2
