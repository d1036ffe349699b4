/-! The law: its begin. -/
def lwc (G : zs_G) : Int32 := if zg_L G ≤ 0 then nI 0 else zg_x G 0
theorem lw_cell (G : zs_G) (f : UInt32) (σ : zs_S) (Q : zs_Q) (hG : zg_L G ≤ 3073) : zw_Lw_cell G [.float f, .int (nI 0)] σ Q ↔ Q (some (.int (lwc G))) σ := by
  unfold lwc
  by_cases g : zg_L G ≤ 0
  · rw [if_pos g]
    simp (disch := omega) only [zw_Lw_cell, ze_Lw_cell_0, ze_Lw_cell_6, ze_Lw_cell_12, ze_Lw_cell_13, zt_sln, zt_ild, zt_ald, zt_ist, zt_ast, zt_inc, zt_psh, zt_nul, zt_bin, zt_div, zt_if, zt_cmp, zt_ifn, zt_dup, zt_du2, zt_pop, zt_gtI, zt_gtR, zt_ptI, zt_ptZ, zt_ptR, zt_xld, zt_rld, zt_ias, zt_zas, zt_ras, zt_len, zt_irt, zt_zrt, zt_art, zt_vrt, zt_cal, zt_cav, zt_cai, zt_cas, zt_dfl, zt_oin, zt_nwa, zt_nwo, zs_args, zs_rv, zs_fits, zs_c1, Value.category, List.getElem?_cons_zero, List.getElem?_cons_succ, List.set_cons_zero, List.set_cons_succ, List.length_nil, List.length_cons, beq_self_eq_true, Bool.and_self, Bool.and_true, true_and, and_true, Nat.add_zero, Nat.zero_add, Nat.le_refl, Nat.zero_le, Nat.reduceAdd, Nat.reduceLeDiff, Option.toList_some, Option.toList_none, List.nil_append, List.cons_append, zb_0, zb_1, zb_i0, zb_i1, zb_ij, ne_eq, Classical.not_not, nI_clamp, zn_in, nI_add, zn_mul, nI_leI, nI_ltI, nI_eq, reduceIte, Nat.reduceLT, Nat.reduceMul, Nat.reducePow, zup_at, zvp_at, zn_z, zn_o, eq_self, or_true, true_or, or_false, false_or, zb_0, zb_1, zb_ik, zn_m, zn_rm, zn_sub, zn_div, not_false_eq_true, not_true_eq_false, forall_const, false_implies, implies_true, and_self, Bool.false_eq_true, Nat.reduceEqDiff, false_and, and_false, Nat.reduceSub, g]
  · rw [if_neg g]
    have e : 0 < zg_L G := by omega
    simp (disch := omega) only [zw_Lw_cell, ze_Lw_cell_0, ze_Lw_cell_6, ze_Lw_cell_12, ze_Lw_cell_13, zt_sln, zt_sld, zt_ild, zt_ald, zt_ist, zt_ast, zt_inc, zt_psh, zt_nul, zt_bin, zt_div, zt_if, zt_cmp, zt_ifn, zt_dup, zt_du2, zt_pop, zt_gtI, zt_gtR, zt_ptI, zt_ptZ, zt_ptR, zt_xld, zt_rld, zt_ias, zt_zas, zt_ras, zt_len, zt_irt, zt_zrt, zt_art, zt_vrt, zt_cal, zt_cav, zt_cai, zt_cas, zt_dfl, zt_oin, zt_nwa, zt_nwo, zs_args, zs_rv, zs_fits, zs_c1, Value.category, List.getElem?_cons_zero, List.getElem?_cons_succ, List.set_cons_zero, List.set_cons_succ, List.length_nil, List.length_cons, beq_self_eq_true, Bool.and_self, Bool.and_true, true_and, and_true, Nat.add_zero, Nat.zero_add, Nat.le_refl, Nat.zero_le, Nat.reduceAdd, Nat.reduceLeDiff, Option.toList_some, Option.toList_none, List.nil_append, List.cons_append, zb_0, zb_1, zb_i0, zb_i1, zb_ij, ne_eq, Classical.not_not, nI_clamp, zn_in, nI_add, zn_mul, nI_leI, nI_ltI, nI_eq, reduceIte, Nat.reduceLT, Nat.reduceMul, Nat.reducePow, zup_at, zvp_at, zn_z, zn_o, eq_self, or_true, true_or, or_false, false_or, zb_0, zb_1, zb_ik, zn_m, zn_rm, zn_sub, zn_div, not_false_eq_true, not_true_eq_false, forall_const, false_implies, implies_true, and_self, Bool.false_eq_true, Nat.reduceEqDiff, false_and, and_false, Nat.reduceSub, g, e]
theorem md_cold (M : Nat) (σ : zs_S) (N : Nat → Nat → Nat) (V : Nat → Nat → Int32) : cold σ (md M σ N V) M := fun w hw => by
  refine ⟨?_, fun q => ⟨?_, ?_⟩⟩
  · show (if M ≤ w ∧ w < M + 32 then zm_K (w - M) else zs_K σ w) = _
    rw [if_neg (by omega)]
  · show (if M ≤ w ∧ w < M + 32 then (if zm_raw (w - M) then V (w - M) q else nI (N (w - M) q)) else zs_I σ w q) = _
    rw [if_neg (by omega)]
  · show (if w = M then zm_R M q else zs_R σ w q) = _
    rw [if_neg (by omega)]
theorem mq_cold (M : Nat) (σ : zs_S) (j : Nat) : cold σ (mq M σ j) M := fun w hw => by
  refine ⟨?_, fun q => ⟨?_, ?_⟩⟩
  · show (if M ≤ w ∧ w < M + 1 + j then zm_K (w - M) else zs_K σ w) = _
    rw [if_neg (by omega)]
  · show (if M ≤ w ∧ w < M + 1 + j then nI 0 else zs_I σ w q) = _
    rw [if_neg (by omega)]
  · show (if w = M then _ else if M < w ∧ w < M + 1 + j then none else zs_R σ w q) = _
    rw [if_neg (by omega), if_neg (by omega)]
theorem mq_0 (M : Nat) (τ : zs_S) (hn : zs_n τ = M) : mq M (zs_nw τ (8, 0)) 0 = zs_nw τ (8, 0) := by
  refine zs_ext ?_ ?_ (fun v y => ?_) (fun v y => ?_)
  · show M + 1 + 0 = zs_n τ + 1
    omega
  · funext v
    show (if M ≤ v ∧ v < M + 1 + 0 then zm_K (v - M) else zs_K (zs_nw τ (8, 0)) v) = zs_K (zs_nw τ (8, 0)) v
    by_cases g : M ≤ v ∧ v < M + 1 + 0
    · have e : v = M := by omega
      rw [if_pos g, zx_K_nw, hn, if_pos e, e, Nat.sub_self]
      rfl
    · rw [if_neg g]
  · show (if M ≤ v ∧ v < M + 1 + 0 then nI 0 else zs_I (zs_nw τ (8, 0)) v y) = zs_I (zs_nw τ (8, 0)) v y
    by_cases g : M ≤ v ∧ v < M + 1 + 0
    · rw [if_pos g, zx_I_nw, hn, if_pos (by omega)]
      rfl
    · rw [if_neg g]
  · show (if v = M then (if mcl y = 0 ∨ 0 < mcl y then none else some (M + mcl y)) else if M < v ∧ v < M + 1 + 0 then none else zs_R (zs_nw τ (8, 0)) v y) = zs_R (zs_nw τ (8, 0)) v y
    by_cases g : v = M
    · rw [if_pos g, if_pos (by omega), zx_R_nw, hn, if_pos g]
    · rw [if_neg g, if_neg (by omega)]
/-- the law's begin: what holds when its loop begins -/
theorem lw_begin (G : zs_G) (hG : zg_L G ≤ 3073) (h : ∀ P M τ σ, 0 < P → P ≤ 4 → M = 40 + 8 * P → csb τ P → csh τ P → (∀ l, l < 3 → csl1 τ l) → (∀ s, s < 2 → css1 τ s) → (∀ r, r < 2 → csr1 τ P (crv P r)) → zs_n σ = M + 32 → cold τ (md M σ (mN0 P) (mV0 24)) M → zl_Lw_law_28 G [some (.float 0), some (.ref 0), some (.ref M), some (.int (nI 1))] [] (md M σ (mN0 P) (mV0 24)) 142 11043) : zb_Lw_law_0 G [some (.float 0), none, none, none] [] zs_0 0 0 := by
  have hb := cpn_le (lwc G)
  have cq := fun σ Q => lw_cell G 0 σ Q hG
  have n0 : zs_n zs_0 = 0 := rfl
  have k0 : zs_K (zs_nw zs_0 (7, 0)) 0 = (7, 0) := rfl
  simp (disch := omega) only [ze_Lw_law_0, zt_ild, zt_ald, zt_ist, zt_ast, zt_inc, zt_psh, zt_nul, zt_bin, zt_div, zt_if, zt_cmp, zt_ifn, zt_dup, zt_du2, zt_pop, zt_gtI, zt_gtR, zt_ptI, zt_ptZ, zt_ptR, zt_xld, zt_rld, zt_ias, zt_zas, zt_ras, zt_len, zt_irt, zt_zrt, zt_art, zt_vrt, zt_cal, zt_cav, zt_cai, zt_cas, zt_dfl, zt_oin, zt_nwa, zt_nwo, zs_args, zs_rv, zs_fits, zs_c1, Value.category, List.getElem?_cons_zero, List.getElem?_cons_succ, List.set_cons_zero, List.set_cons_succ, List.length_nil, List.length_cons, beq_self_eq_true, Bool.and_self, Bool.and_true, true_and, and_true, Nat.add_zero, Nat.zero_add, Nat.le_refl, Nat.zero_le, Nat.reduceAdd, Nat.reduceLeDiff, Option.toList_some, Option.toList_none, List.nil_append, List.cons_append, zb_0, zb_1, zb_i0, zb_i1, zb_ij, ne_eq, Classical.not_not, nI_clamp, zn_in, nI_add, zn_mul, nI_leI, nI_ltI, nI_eq, reduceIte, Nat.reduceLT, Nat.reduceMul, Nat.reducePow, zup_at, zvp_at, zn_z, zn_o, eq_self, or_true, true_or, or_false, false_or, zb_0, zb_1, zb_ik, zn_m, zn_rm, zn_sub, zn_div, not_false_eq_true, not_true_eq_false, forall_const, false_implies, implies_true, and_self, Bool.false_eq_true, Nat.reduceEqDiff, false_and, and_false, Nat.reduceSub, cq, n0, k0]
  refine cl_SB_init (lwc G) (zs_nw zs_0 (7, 0)) _ k0 rfl ?_
  intro τ z1 z2 z3 z4 z5 z6
  generalize hP : cpn (lwc G) = P at *
  generalize hM : 40 + 8 * P = M at *
  have kM : zs_K (zs_nw τ (8, 0)) M = (8, 0) := by rw [zx_K_nw, z1, if_pos rfl]
  simp (disch := omega) only [zt_ild, zt_ald, zt_ist, zt_ast, zt_inc, zt_psh, zt_nul, zt_bin, zt_div, zt_if, zt_cmp, zt_ifn, zt_dup, zt_du2, zt_pop, zt_gtI, zt_gtR, zt_ptI, zt_ptZ, zt_ptR, zt_xld, zt_rld, zt_ias, zt_zas, zt_ras, zt_len, zt_irt, zt_zrt, zt_art, zt_vrt, zt_cal, zt_cav, zt_cai, zt_cas, zt_dfl, zt_oin, zt_nwa, zt_nwo, zs_args, zs_rv, zs_fits, zs_c1, Value.category, List.getElem?_cons_zero, List.getElem?_cons_succ, List.set_cons_zero, List.set_cons_succ, List.length_nil, List.length_cons, beq_self_eq_true, Bool.and_self, Bool.and_true, true_and, and_true, Nat.add_zero, Nat.zero_add, Nat.le_refl, Nat.zero_le, Nat.reduceAdd, Nat.reduceLeDiff, Option.toList_some, Option.toList_none, List.nil_append, List.cons_append, zb_0, zb_1, zb_i0, zb_i1, zb_ij, ne_eq, Classical.not_not, nI_clamp, zn_in, nI_add, zn_mul, nI_leI, nI_ltI, nI_eq, reduceIte, Nat.reduceLT, Nat.reduceMul, Nat.reducePow, zup_at, zvp_at, zn_z, zn_o, eq_self, or_true, true_or, or_false, false_or, zb_0, zb_1, zb_ik, zn_m, zn_rm, zn_sub, zn_div, not_false_eq_true, not_true_eq_false, forall_const, false_implies, implies_true, and_self, Bool.false_eq_true, Nat.reduceEqDiff, false_and, and_false, Nat.reduceSub, cq, z1, kM]
  refine mo_init M (lwc G) (zs_nw τ (8, 0)) _ (mq_0 M τ z1) ?_
  rw [hP]
  simp (disch := omega) only [zt_ild, zt_ald, zt_ist, zt_ast, zt_inc, zt_psh, zt_nul, zt_bin, zt_div, zt_if, zt_cmp, zt_ifn, zt_dup, zt_du2, zt_pop, zt_gtI, zt_gtR, zt_ptI, zt_ptZ, zt_ptR, zt_xld, zt_rld, zt_ias, zt_zas, zt_ras, zt_len, zt_irt, zt_zrt, zt_art, zt_vrt, zt_cal, zt_cav, zt_cai, zt_cas, zt_dfl, zt_oin, zt_nwa, zt_nwo, zs_args, zs_rv, zs_fits, zs_c1, Value.category, List.getElem?_cons_zero, List.getElem?_cons_succ, List.set_cons_zero, List.set_cons_succ, List.length_nil, List.length_cons, beq_self_eq_true, Bool.and_self, Bool.and_true, true_and, and_true, Nat.add_zero, Nat.zero_add, Nat.le_refl, Nat.zero_le, Nat.reduceAdd, Nat.reduceLeDiff, Option.toList_some, Option.toList_none, List.nil_append, List.cons_append, zb_0, zb_1, zb_i0, zb_i1, zb_ij, ne_eq, Classical.not_not, nI_clamp, zn_in, nI_add, zn_mul, nI_leI, nI_ltI, nI_eq, reduceIte, Nat.reduceLT, Nat.reduceMul, Nat.reducePow, zup_at, zvp_at, zn_z, zn_o, eq_self, or_true, true_or, or_false, false_or, zb_0, zb_1, zb_ik, zn_m, zn_rm, zn_sub, zn_div, not_false_eq_true, not_true_eq_false, forall_const, false_implies, implies_true, and_self, Bool.false_eq_true, Nat.reduceEqDiff, false_and, and_false, Nat.reduceSub]
  refine h P M τ (mq M (zs_nw τ (8, 0)) 31) hb.1 hb.2 hM.symm z2 z3 z4 z5 z6 (by rw [mq_n]) ?_
  exact cold_trans (cold_trans (cold_nw (8, 0) (cold_rfl τ M) (by omega)) (mq_cold M _ 31) (Nat.le_refl _)) (md_cold M _ _ _) (Nat.le_refl _)
