/-! Loops: the rule, and the reference's small loops. -/
theorem zx_loop {α : Type} {body : zs_P → zs_P} (f : α → List (Option Value)) (S : α → zs_S) (m : α → Nat) (R : α → Prop) {c s : Nat} (h : ∀ x, R x → ∀ K : zs_P, (∀ y, m y < m x → R y → K (f y) [] (S y) c s) → body K (f x) [] (S x) c s) (x : α) (hx : R x) : zt_ex body (f x) [] (S x) c s := by
  refine zx_lop (fun n L st σ c' s' => ∃ y, n = m y ∧ R y ∧ L = f y ∧ st = [] ∧ σ = S y ∧ c' = c ∧ s' = s) ?_ (k := m x) ⟨x, rfl, hx, rfl, rfl, rfl, rfl, rfl⟩
  rintro n K L st σ c' s' ⟨y, rfl, hy, rfl, rfl, rfl, rfl, rfl⟩ hK
  exact h y hy K (fun z hz hR => hK (m z) _ _ _ _ _ hz ⟨z, rfl, hR, rfl, rfl, rfl, rfl, rfl⟩)
/-- the keys of partition p from k on -/
def mE (X : Nat → Bool) (P p k : Nat) : Bool := (List.range 12).any (fun j => decide (k ≤ j ∧ j % P = p) && X j)
theorem mE_iff (X : Nat → Bool) (P p k : Nat) : mE X P p k = true ↔ ∃ j, k ≤ j ∧ j < 12 ∧ j % P = p ∧ X j = true := by
  simp only [mE, List.any_eq_true, List.mem_range, Bool.and_eq_true, decide_eq_true_eq]
  constructor
  · rintro ⟨j, h1, ⟨h2, h3⟩, h4⟩; exact ⟨j, h2, h1, h3, h4⟩
  · rintro ⟨j, h2, h1, h3, h4⟩; exact ⟨j, h1, ⟨h2, h3⟩, h4⟩
theorem mE_end (X : Nat → Bool) {P p k : Nat} (h : 12 ≤ k) : mE X P p k = false := by
  rw [← Bool.not_eq_true, mE_iff]
  rintro ⟨j, h1, h2, -⟩; omega
theorem mE_step (X : Nat → Bool) {P p k : Nat} (hP : 0 < P) (hk : k % P = p) (h : k < 12) : mE X P p k = (X k || mE X P p (k + P)) := by
  rw [Bool.eq_iff_iff, Bool.or_eq_true, mE_iff, mE_iff]
  constructor
  · rintro ⟨j, h1, h2, h3, h4⟩
    by_cases e : j = k
    · subst e; exact Or.inl h4
    · refine Or.inr ⟨j, ?_, h2, h3, h4⟩
      have h5 : (j - k) % P = 0 := Nat.sub_mod_eq_zero_of_mod_eq (by rw [h3, hk])
      have h7 : P ≤ j - k := Nat.le_of_dvd (by omega) (Nat.dvd_of_mod_eq_zero h5)
      omega
  · rintro (h1 | ⟨j, h1, h2, h3, h4⟩)
    · exact ⟨k, Nat.le_refl _, h, hk, h1⟩
    · exact ⟨j, by omega, h2, h3, h4⟩
theorem mo_readsIn (M : Nat) (σ : zs_S) (N : Nat → Nat → Nat) (V : Nat → Nat → Int32) (Q : zs_Q) (hN : ∀ j k, N j k < 100000) (hP : 0 < N 0 0 ∧ N 0 0 ≤ 4) (t p : Nat) (ht : t < 100) (hp : p < N 0 0) (h : Q (some (.int (nI (if mE (mR N V t) (N 0 0) p p then 1 else 0)))) (md M σ N V)) : zw_Md_readsIn [.ref M, .int (nI t), .int (nI p)] (md M σ N V) Q := by
  simp (disch := first | exact zlt (hN _ _) | omega | assumption) only [zw_Md_readsIn, ze_Md_readsIn_0, ze_Md_readsIn_5, ze_Md_readsIn_12, ze_Md_readsIn_16, ze_Md_readsIn_26, ze_Md_readsIn_30, ze_Md_readsIn_31, ze_Md_readsIn_44, zt_ild, zt_ald, zt_ist, zt_ast, zt_inc, zt_psh, zt_nul, zt_bin, zt_div, zt_if, zt_cmp, zt_ifn, zt_dup, zt_du2, zt_pop, zt_gtI, zt_gtR, zt_ptI, zt_ptZ, zt_ptR, zt_xld, zt_rld, zt_ias, zt_zas, zt_ras, zt_len, zt_irt, zt_zrt, zt_art, zt_vrt, zt_cal, zt_cav, zt_cai, zt_cas, zt_dfl, zt_oin, zt_nwa, zt_nwo, zs_args, zs_rv, zs_fits, zs_c1, Value.category, List.getElem?_cons_zero, List.getElem?_cons_succ, List.set_cons_zero, List.set_cons_succ, List.length_nil, List.length_cons, beq_self_eq_true, Bool.and_self, Bool.and_true, true_and, and_true, Nat.add_zero, Nat.zero_add, Nat.le_refl, Nat.zero_le, Nat.reduceAdd, Nat.reduceLeDiff, Option.toList_some, Option.toList_none, List.nil_append, List.cons_append, zb_0, zb_1, zb_i0, zb_i1, zb_ij, ne_eq, Classical.not_not, mdK_0, mdK_1, mdR_1, mdI_1, mdP_1, mdK_2, mdR_3, mdI_2, mdP_2, mdK_3, mdR_4, mdI_3, mdP_3, mdK_4, mdR_5, mdI_4, mdP_4, mdK_5, mdR_6, mdI_5, mdP_5, mdK_6, mdR_7, mdI_6, mdP_6, mdK_7, mdR_8, mdI_7, mdP_7, mdK_8, mdR_9, mdI_8, mdP_8, mdK_9, mdR_10, mdI_9, mdP_9, mdK_10, mdR_11, mdI_10, mdP_10, mdK_11, mdR_12, mdI_11, mdP_11, mdK_12, mdR_13, mdI_12, mdP_12, mdK_13, mdR_14, mdI_13, mdP_13, mdK_14, mdR_15, mdI_14, mdP_14, mdK_15, mdR_17, mdI_15, mdP_15, mdK_16, mdR_18, mdI_16, mdP_16, mdK_17, mdR_19, mdI_17, mdP_17, mdK_18, mdR_20, mdI_18, mdP_18, mdK_19, mdR_21, mdI_19, mdP_19, mdK_20, mdR_22, mdI_20, mdP_20, mdK_21, mdR_23, mdI_21, mdP_21, mdK_22, mdR_24, mdI_22, mdP_22, mdK_23, mdR_25, mdI_23, mdP_23, mdK_24, mdR_26, mdI_24, mdP_24, mdK_25, mdR_27, mdI_25, mdP_25, mdK_26, mdR_28, mdI_26, mdP_26, mdK_27, mdR_29, mdI_27, mdP_27, mdK_28, mdR_30, mdI_28, mdP_28, mdK_29, mdR_31, mdI_29, mdP_29, mdK_30, mdR_32, mdI_30, mdP_30, mdK_31, mdR_33, mdI_31, mdP_31, mdI_0, mdP_0, nI_clamp, zn_in, nI_add, zn_mul, nI_leI, nI_ltI, nI_eq, reduceIte, Nat.reduceLT, Nat.reduceMul, Nat.reducePow, zup_at, zvp_at, zn_z, zn_o, eq_self, or_true, true_or, or_false, false_or, zb_0, zb_1, zb_ik, zn_m, zn_sub, zn_div, not_false_eq_true, not_true_eq_false, forall_const, false_implies, implies_true, and_self, Nat.reduceEqDiff, false_and, and_false, Nat.reduceSub]
  refine zx_loop (fun x : Nat × Nat => [some (.ref M), some (.int (nI t)), some (.int (nI p)), some (.int (nI x.2)), some (.int (nI x.1))]) (fun _ => md M σ N V) (fun x => 20 - x.1) (fun x => x.1 % N 0 0 = p ∧ x.1 < 20 ∧ x.2 < 2 ∧ Q (some (.int (nI (if x.2 = 1 ∨ mE (mR N V t) (N 0 0) p x.1 = true then 1 else 0)))) (md M σ N V)) ?_ (p, 0) ⟨?_, ?_, ?_, ?_⟩
  · rintro ⟨k, b⟩ ⟨h1, h2, h3, h4⟩ K hK
    dsimp only at h1 h2 h3 h4 hK ⊢
    simp (disch := first | exact zlt (hN _ _) | omega | assumption) only [ze_Md_readsIn_0, ze_Md_readsIn_5, ze_Md_readsIn_12, ze_Md_readsIn_16, ze_Md_readsIn_26, ze_Md_readsIn_30, ze_Md_readsIn_31, ze_Md_readsIn_44, zt_ild, zt_ald, zt_ist, zt_ast, zt_inc, zt_psh, zt_nul, zt_bin, zt_div, zt_if, zt_cmp, zt_ifn, zt_dup, zt_du2, zt_pop, zt_gtI, zt_gtR, zt_ptI, zt_ptZ, zt_ptR, zt_xld, zt_rld, zt_ias, zt_zas, zt_ras, zt_len, zt_irt, zt_zrt, zt_art, zt_vrt, zt_cal, zt_cav, zt_cai, zt_cas, zt_dfl, zt_oin, zt_nwa, zt_nwo, zs_args, zs_rv, zs_fits, zs_c1, Value.category, List.getElem?_cons_zero, List.getElem?_cons_succ, List.set_cons_zero, List.set_cons_succ, List.length_nil, List.length_cons, beq_self_eq_true, Bool.and_self, Bool.and_true, true_and, and_true, Nat.add_zero, Nat.zero_add, Nat.le_refl, Nat.zero_le, Nat.reduceAdd, Nat.reduceLeDiff, Option.toList_some, Option.toList_none, List.nil_append, List.cons_append, zb_0, zb_1, zb_i0, zb_i1, zb_ij, ne_eq, Classical.not_not, mdK_0, mdK_1, mdR_1, mdI_1, mdP_1, mdK_2, mdR_3, mdI_2, mdP_2, mdK_3, mdR_4, mdI_3, mdP_3, mdK_4, mdR_5, mdI_4, mdP_4, mdK_5, mdR_6, mdI_5, mdP_5, mdK_6, mdR_7, mdI_6, mdP_6, mdK_7, mdR_8, mdI_7, mdP_7, mdK_8, mdR_9, mdI_8, mdP_8, mdK_9, mdR_10, mdI_9, mdP_9, mdK_10, mdR_11, mdI_10, mdP_10, mdK_11, mdR_12, mdI_11, mdP_11, mdK_12, mdR_13, mdI_12, mdP_12, mdK_13, mdR_14, mdI_13, mdP_13, mdK_14, mdR_15, mdI_14, mdP_14, mdK_15, mdR_17, mdI_15, mdP_15, mdK_16, mdR_18, mdI_16, mdP_16, mdK_17, mdR_19, mdI_17, mdP_17, mdK_18, mdR_20, mdI_18, mdP_18, mdK_19, mdR_21, mdI_19, mdP_19, mdK_20, mdR_22, mdI_20, mdP_20, mdK_21, mdR_23, mdI_21, mdP_21, mdK_22, mdR_24, mdI_22, mdP_22, mdK_23, mdR_25, mdI_23, mdP_23, mdK_24, mdR_26, mdI_24, mdP_24, mdK_25, mdR_27, mdI_25, mdP_25, mdK_26, mdR_28, mdI_26, mdP_26, mdK_27, mdR_29, mdI_27, mdP_27, mdK_28, mdR_30, mdI_28, mdP_28, mdK_29, mdR_31, mdI_29, mdP_29, mdK_30, mdR_32, mdI_30, mdP_30, mdK_31, mdR_33, mdI_31, mdP_31, mdI_0, mdP_0, nI_clamp, zn_in, nI_add, zn_mul, nI_leI, nI_ltI, nI_eq, reduceIte, Nat.reduceLT, Nat.reduceMul, Nat.reducePow, zup_at, zvp_at, zn_z, zn_o, eq_self, or_true, true_or, or_false, false_or, zb_0, zb_1, zb_ik, zn_m, zn_sub, zn_div, not_false_eq_true, not_true_eq_false, forall_const, false_implies, implies_true, and_self, Nat.reduceEqDiff, false_and, and_false, Nat.reduceSub, mo_reads]
    have g1 : (k + N 0 0) % N 0 0 = p := by rw [Nat.add_mod_right]; exact h1
    have g2 := hK (k + N 0 0, 0)
    have g3 := hK (k + N 0 0, 1)
    dsimp only at g2 g3
    by_cases hk : 12 ≤ k
    · rw [mE_end _ hk] at h4
      rcases (show b = 0 ∨ b = 1 by omega) with rfl | rfl <;> simpa [hk, zb_0, zb_1] using h4
    · rw [mE_step _ hP.1 h1 (by omega)] at h4
      clear hK h hN
      grind
  · exact Nat.mod_eq_of_lt hp
  · show p < 20; omega
  · show 0 < 2; decide
  · simpa using h
