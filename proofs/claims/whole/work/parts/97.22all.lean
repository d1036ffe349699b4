/-! The law holds. -/
theorem st_up {P M k : Nat} {ρ : zs_S} (h : st P M k ρ) : st P M (k + 1) ρ := by
  obtain ⟨X, C, W, N, V, hi, hr, hm⟩ := h
  exact ⟨X, C, W, N, V, inv_k hi, hr, hm⟩
theorem lw_end {i L : Nat} (hL : L ≤ 3073) (hi : i < 10000) (h : ¬ nI L - nI 6 < nI i) : i + 6 ≤ L := by
  apply Classical.byContradiction
  intro z
  apply h
  by_cases g : 6 ≤ L
  · rw [zn_sub g]
    exact (nI_ltI (by omega) (by omega)).mpr (by omega)
  · have n1 : nI L - nI 6 < 0 := by
      rcases (show L = 0 ∨ L = 1 ∨ L = 2 ∨ L = 3 ∨ L = 4 ∨ L = 5 by omega) with q | q | q | q | q | q <;> subst q <;> decide
    have n2 : ¬ nI i < 0 := nI_pos (by omega)
    exact Int32.lt_of_lt_of_le n1 (Int32.not_lt.mp n2)
set_option maxRecDepth 4000 in
theorem lw_37 {P M k i : Nat} {ρ : zs_S} (G : zs_G) (K28 : zs_P) (c s : Nat) (hG : zg_L G ≤ 3073) (hi : i + 6 ≤ zg_L G) (hc : c ≤ 100000) (hs : s ≤ 100000) (hk : k < 9000) (h : st P M k ρ) (hK : ∀ ρ' c' s', st P M (k + 1) ρ' → c' ≤ c + 3 → s' ≤ s + 13 → K28 [some (.float 0), some (.ref 0), some (.ref M), some (.int (nI (i + 6)))] [] ρ' c' s') : zb_Lw_law_37 G K28 [some (.float 0), some (.ref 0), some (.ref M), some (.int (nI i))] [] ρ c s := by
  have f0 : i < zg_L G := by omega
  have l746 : zb_Lw_law_746 G K28 [some (.float 0), some (.ref 0), some (.ref M), some (.int (nI i))] [] ρ c s := by
    simp (disch := omega) only [ze_Lw_law_746, zt_ild, zt_ald, zt_ist, zt_ast, zt_inc, zt_psh, zt_nul, zt_bin, zt_div, zt_if, zt_cmp, zt_ifn, zt_dup, zt_du2, zt_pop, zt_gtI, zt_gtR, zt_ptI, zt_ptZ, zt_ptR, zt_xld, zt_rld, zt_ias, zt_zas, zt_ras, zt_len, zt_irt, zt_zrt, zt_art, zt_vrt, zt_cal, zt_cav, zt_cai, zt_cas, zt_dfl, zt_oin, zt_nwa, zt_nwo, zs_args, zs_rv, zs_fits, zs_c1, Value.category, List.getElem?_cons_zero, List.getElem?_cons_succ, List.set_cons_zero, List.set_cons_succ, List.length_nil, List.length_cons, beq_self_eq_true, Bool.and_self, Bool.and_true, true_and, and_true, Nat.add_zero, Nat.zero_add, Nat.le_refl, Nat.zero_le, Nat.reduceAdd, Nat.reduceLeDiff, Option.toList_some, Option.toList_none, List.nil_append, List.cons_append, zb_0, zb_1, zb_i0, zb_i1, zb_ij, ne_eq, Classical.not_not, nI_clamp, zn_in, nI_add, zn_mul, nI_leI, nI_ltI, nI_eq, reduceIte, Nat.reduceLT, Nat.reduceMul, Nat.reducePow, zup_at, zvp_at, zn_z, zn_o, eq_self, or_true, true_or, or_false, false_or, zb_0, zb_1, zb_ik, zn_m, zn_rm, zn_sub, zn_div, not_false_eq_true, not_true_eq_false, forall_const, false_implies, implies_true, and_self, Bool.false_eq_true, Nat.reduceEqDiff, false_and, and_false, Nat.reduceSub]
    exact hK ρ c s (st_up h) (by omega) (by omega)
  simp (disch := omega) only [ze_Lw_law_37, zt_ild, zt_ald, zt_ist, zt_ast, zt_inc, zt_psh, zt_nul, zt_bin, zt_div, zt_if, zt_cmp, zt_ifn, zt_dup, zt_du2, zt_pop, zt_gtI, zt_gtR, zt_ptI, zt_ptZ, zt_ptR, zt_xld, zt_rld, zt_ias, zt_zas, zt_ras, zt_len, zt_irt, zt_zrt, zt_art, zt_vrt, zt_cal, zt_cav, zt_cai, zt_cas, zt_dfl, zt_oin, zt_nwa, zt_nwo, zs_args, zs_rv, zs_fits, zs_c1, Value.category, List.getElem?_cons_zero, List.getElem?_cons_succ, List.set_cons_zero, List.set_cons_succ, List.length_nil, List.length_cons, beq_self_eq_true, Bool.and_self, Bool.and_true, true_and, and_true, Nat.add_zero, Nat.zero_add, Nat.le_refl, Nat.zero_le, Nat.reduceAdd, Nat.reduceLeDiff, Option.toList_some, Option.toList_none, List.nil_append, List.cons_append, zb_0, zb_1, zb_i0, zb_i1, zb_ij, ne_eq, Classical.not_not, nI_clamp, zn_in, nI_add, zn_mul, nI_leI, nI_ltI, nI_eq, reduceIte, Nat.reduceLT, Nat.reduceMul, Nat.reducePow, zup_at, zvp_at, zn_z, zn_o, eq_self, or_true, true_or, or_false, false_or, zb_0, zb_1, zb_ik, zn_m, zn_rm, zn_sub, zn_div, not_false_eq_true, not_true_eq_false, forall_const, false_implies, implies_true, and_self, Bool.false_eq_true, Nat.reduceEqDiff, false_and, and_false, Nat.reduceSub, zt_sld, f0]
  generalize zg_x G i &&& nI 31 = v
  exact ⟨fun _ => lw_136 G K28 c s hG hi hc hs hk h hK, fun _ => ⟨fun _ => lw_199 G K28 c s hG hi hc hs hk h hK, fun _ => ⟨fun _ => lw_222 G K28 c s hG hi hc hs hk h hK, fun _ => ⟨fun _ => lw_255 G K28 c s hG hi hc hs hk h hK, fun _ => ⟨fun _ => lw_268 G K28 c s hG hi hc hs hk h hK, fun _ => ⟨fun _ => lw_291 G K28 c s hG hi hc hs hk h hK, fun _ => ⟨fun _ => lw_314 G K28 c s hG hi hc hs hk h hK, fun _ => ⟨fun _ => lw_337 G K28 c s hG hi hc hs hk h hK, fun _ => ⟨fun _ => lw_360 G K28 c s hG hi hc hs hk h hK, fun _ => ⟨fun _ => lw_383 G K28 c s hG hi hc hs hk h hK, fun _ => ⟨fun _ => lw_416 G K28 c s hG hi hc hs hk h hK, fun _ => ⟨fun _ => lw_459 G K28 c s hG hi hc hs hk h hK, fun _ => ⟨fun _ => lw_482 G K28 c s hG hi hc hs hk h hK, fun _ => ⟨fun _ => lw_515 G K28 c s hG hi hc hs hk h hK, fun _ => ⟨fun _ => lw_538 G K28 c s hG hi hc hs hk h hK, fun _ => ⟨fun _ => lw_571 G K28 c s hG hi hc hs hk h hK, fun _ => ⟨fun _ => lw_604 G K28 c s hG hi hc hs hk h hK, fun _ => ⟨fun _ => lw_637 G K28 c s hG hi hc hs hk h hK, fun _ => ⟨fun _ => lw_670 G K28 c s hG hi hc hs hk h hK, fun _ => ⟨fun _ => lw_703 G K28 c s hG hi hc hs hk h hK, fun _ => l746⟩⟩⟩⟩⟩⟩⟩⟩⟩⟩⟩⟩⟩⟩⟩⟩⟩⟩⟩⟩
theorem zz_all : zz_pure := by
  intro G hG
  refine lw_begin G hG (fun P M τ σ h0 h4 hM c1 c2 c3 c4 c5 hn hc => ?_)
  have hst := st_start P M τ σ h0 h4 hM c1 c2 c3 c4 c5 hn hc
  show zt_ex (zb_Lw_law_28 G) _ [] _ 142 11043
  refine zx_lop (fun n L st' σ' c s => ∃ j, n = 600 - j ∧ j ≤ 520 ∧ L = [some (.float 0), some (.ref 0), some (.ref M), some (.int (nI (1 + 6 * j)))] ∧ st' = [] ∧ st P M (1 + j) σ' ∧ c ≤ 142 + 3 * j ∧ s ≤ 11043 + 13 * j) ?_ (k := 600) ⟨0, rfl, by omega, rfl, rfl, hst, by omega, by omega⟩
  rintro n K L st' σ' c s ⟨j, rfl, hj, rfl, rfl, h, hc', hs'⟩ hK
  have e3 : c ≤ 600000 := by omega
  have e4 : s ≤ 7302250 := by omega
  rw [ze_Lw_law_28]
  simp (disch := omega) only [zt_ild, zt_ald, zt_ist, zt_ast, zt_inc, zt_psh, zt_nul, zt_bin, zt_div, zt_if, zt_cmp, zt_ifn, zt_dup, zt_du2, zt_pop, zt_gtI, zt_gtR, zt_ptI, zt_ptZ, zt_ptR, zt_xld, zt_rld, zt_ias, zt_zas, zt_ras, zt_len, zt_irt, zt_zrt, zt_art, zt_vrt, zt_cal, zt_cav, zt_cai, zt_cas, zt_dfl, zt_oin, zt_nwa, zt_nwo, zs_args, zs_rv, zs_fits, zs_c1, Value.category, List.getElem?_cons_zero, List.getElem?_cons_succ, List.set_cons_zero, List.set_cons_succ, List.length_nil, List.length_cons, beq_self_eq_true, Bool.and_self, Bool.and_true, true_and, and_true, Nat.add_zero, Nat.zero_add, Nat.le_refl, Nat.zero_le, Nat.reduceAdd, Nat.reduceLeDiff, Option.toList_some, Option.toList_none, List.nil_append, List.cons_append, zb_0, zb_1, zb_i0, zb_i1, zb_ij, ne_eq, Classical.not_not, zt_sln]
  refine ⟨fun _ => ?_, fun g => ?_⟩
  · rw [ze_Lw_law_752]
    simp only [zt_ild, zt_ald, zt_ist, zt_ast, zt_inc, zt_psh, zt_nul, zt_bin, zt_div, zt_if, zt_cmp, zt_ifn, zt_dup, zt_du2, zt_pop, zt_gtI, zt_gtR, zt_ptI, zt_ptZ, zt_ptR, zt_xld, zt_rld, zt_ias, zt_zas, zt_ras, zt_len, zt_irt, zt_zrt, zt_art, zt_vrt, zt_cal, zt_cav, zt_cai, zt_cas, zt_dfl, zt_oin, zt_nwa, zt_nwo, zs_args, zs_rv, zs_fits, zs_c1, Value.category, List.getElem?_cons_zero, List.getElem?_cons_succ, List.set_cons_zero, List.set_cons_succ, List.length_nil, List.length_cons, beq_self_eq_true, Bool.and_self, Bool.and_true, true_and, and_true, Nat.add_zero, Nat.zero_add, Nat.le_refl, Nat.zero_le, Nat.reduceAdd, Nat.reduceLeDiff, Option.toList_some, Option.toList_none, List.nil_append, List.cons_append, zb_0, zb_1, zb_i0, zb_i1, zb_ij, ne_eq, Classical.not_not, zt_lrt]
    exact ⟨e3, e4, rfl⟩
  · have hi := lw_end hG (by omega) g
    refine lw_37 G K c s hG hi (by omega) (by omega) (by omega) h (fun ρ' c' s' h' hc2 hs2 => ?_)
    refine hK (600 - (j + 1)) _ _ _ _ _ (by omega) ⟨j + 1, rfl, by omega, ?_, rfl, ?_, by omega, by omega⟩
    · rw [show 1 + 6 * j + 6 = 1 + 6 * (j + 1) by omega]
    · rw [show 1 + (j + 1) = 1 + j + 1 by omega]
      exact h'
