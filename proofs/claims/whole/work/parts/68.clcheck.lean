/-! The class: admits, checkpoint, begin from it, forget values. -/
theorem zt_jcp12 (K : zs_P) (L : List (Option Value)) (v w : Nat) (σ : zs_S) (c s : Nat) (hv : zs_K σ v = (100, 12)) (hw : zs_K σ w = (100, 12)) : zt_jcp K L [.int (nI 12), .int (nI 0), .ref w, .int (nI 0), .ref v] σ c s = K L [] (zs_pF σ w (fun q => if q < 12 then zs_I σ v q else zs_I σ w q)) c s := by
  have e : va_cpy (zs_I σ v) (zs_I σ w) (nI 0).toNatClampNeg (nI 0).toNatClampNeg (nI 12).toNatClampNeg = (fun q => if q < 12 then zs_I σ v q else zs_I σ w q) := by
    funext q
    have h0 : (nI 0).toNatClampNeg = 0 := nI_clamp (by decide)
    have h1 : (nI 12).toNatClampNeg = 12 := nI_clamp (by decide)
    unfold va_cpy
    rw [h0, h1]
    by_cases g : q < 12
    · rw [if_pos (by omega), if_pos g]; congr 1; omega
    · rw [if_neg (by omega), if_neg g]
  have h0 : (nI 0).toNatClampNeg = 0 := nI_clamp (by decide)
  have h1 : (nI 12).toNatClampNeg = 12 := nI_clamp (by decide)
  unfold zt_jcp
  rw [h0, h1] at e
  simp only [hv, hw, h0, h1, e]
  have f : zs_fits [] := by unfold zs_fits; exact ⟨by decide, rfl⟩
  have g0 : ¬ nI 0 < (0 : Int32) := by decide
  have g1 : ¬ nI 12 < (0 : Int32) := by decide
  simp only [f, g0, g1, not_false_eq_true, true_and, Nat.zero_add, Nat.le_refl]
theorem cl_admit_no (v P p a n c : Nat) (σ : zs_S) (Q : zs_Q) (hs : crp σ v P) (hp : p < P) (hP : P ≤ 4) (ha : zs_I σ (v + 8 + 4 * p) 1 = nI a) (hn : zs_I σ v 3 = nI n) (hc : zs_I σ (v + 8 + 4 * p) 4 = nI c) (hc10 : c ≤ 10) (hn1 : n ≤ 100) (ha1 : a ≤ 100) (hno : n ≤ a ∨ c = 10) : zw_Rp_admitNext [.ref v, .int (nI p)] σ Q ↔ Q (some (.int (-1))) σ := by
  obtain ⟨s1, s2, s3, s4, s5, s6, s7, s8, s9, s10, s11, s12, s13, s14, s15, s16⟩ := hs
  obtain ⟨sp, hpt⟩ := s16 p hp
  have p1 := hpt.1
  by_cases g : n ≤ a
  · simp (disch := omega) only [zw_Rp_admitNext, ze_Rp_admitNext_0, ze_Rp_admitNext_30, zt_ild, zt_ald, zt_ist, zt_ast, zt_inc, zt_psh, zt_nul, zt_bin, zt_div, zt_if, zt_cmp, zt_ifn, zt_dup, zt_du2, zt_pop, zt_gtI, zt_gtR, zt_ptI, zt_ptZ, zt_ptR, zt_xld, zt_rld, zt_ias, zt_zas, zt_ras, zt_len, zt_irt, zt_zrt, zt_art, zt_vrt, zt_cal, zt_cav, zt_cai, zt_cas, zt_dfl, zt_oin, zt_nwa, zt_nwo, zs_args, zs_rv, zs_fits, zs_c1, Value.category, List.getElem?_cons_zero, List.getElem?_cons_succ, List.set_cons_zero, List.set_cons_succ, List.length_nil, List.length_cons, beq_self_eq_true, Bool.and_self, Bool.and_true, true_and, and_true, Nat.add_zero, Nat.zero_add, Nat.le_refl, Nat.zero_le, Nat.reduceAdd, Nat.reduceLeDiff, Option.toList_some, Option.toList_none, List.nil_append, List.cons_append, zb_0, zb_1, zb_i0, zb_i1, zb_ij, ne_eq, Classical.not_not, zx_n_pI, zx_n_pR, zx_n_pF, zx_n_nw, zx_K_pI, zx_K_pR, zx_K_pF, zx_R_pI, zx_R_pF, zx_I_pR, zx_I_eq, zx_I_ne, zx_I_ek, zx_R_eq, zx_R_ne, zx_R_ek, nI_clamp, zn_in, nI_add, zn_mul, nI_leI, nI_ltI, nI_eq, reduceIte, Nat.reduceLT, Nat.reduceMul, Nat.reducePow, zup_at, zvp_at, zn_z, zn_o, eq_self, or_true, true_or, or_false, false_or, zb_0, zb_1, zb_ik, zn_m, zn_rm, zn_sub, zn_div, not_false_eq_true, not_true_eq_false, forall_const, false_implies, implies_true, and_self, Bool.false_eq_true, Nat.reduceEqDiff, false_and, and_false, Nat.reduceSub, s1, s6, s15, sp, hp, p1, ha, hn, g]
  · have g2 : c = 10 := by omega
    have fq := fun Q' => cl_isFull _ _ _ _ c σ Q' hpt hc hc10
    simp (disch := omega) only [zw_Rp_admitNext, ze_Rp_admitNext_0, ze_Rp_admitNext_18, ze_Rp_admitNext_30, zt_ild, zt_ald, zt_ist, zt_ast, zt_inc, zt_psh, zt_nul, zt_bin, zt_div, zt_if, zt_cmp, zt_ifn, zt_dup, zt_du2, zt_pop, zt_gtI, zt_gtR, zt_ptI, zt_ptZ, zt_ptR, zt_xld, zt_rld, zt_ias, zt_zas, zt_ras, zt_len, zt_irt, zt_zrt, zt_art, zt_vrt, zt_cal, zt_cav, zt_cai, zt_cas, zt_dfl, zt_oin, zt_nwa, zt_nwo, zs_args, zs_rv, zs_fits, zs_c1, Value.category, List.getElem?_cons_zero, List.getElem?_cons_succ, List.set_cons_zero, List.set_cons_succ, List.length_nil, List.length_cons, beq_self_eq_true, Bool.and_self, Bool.and_true, true_and, and_true, Nat.add_zero, Nat.zero_add, Nat.le_refl, Nat.zero_le, Nat.reduceAdd, Nat.reduceLeDiff, Option.toList_some, Option.toList_none, List.nil_append, List.cons_append, zb_0, zb_1, zb_i0, zb_i1, zb_ij, ne_eq, Classical.not_not, zx_n_pI, zx_n_pR, zx_n_pF, zx_n_nw, zx_K_pI, zx_K_pR, zx_K_pF, zx_R_pI, zx_R_pF, zx_I_pR, zx_I_eq, zx_I_ne, zx_I_ek, zx_R_eq, zx_R_ne, zx_R_ek, nI_clamp, zn_in, nI_add, zn_mul, nI_leI, nI_ltI, nI_eq, reduceIte, Nat.reduceLT, Nat.reduceMul, Nat.reducePow, zup_at, zvp_at, zn_z, zn_o, eq_self, or_true, true_or, or_false, false_or, zb_0, zb_1, zb_ik, zn_m, zn_rm, zn_sub, zn_div, not_false_eq_true, not_true_eq_false, forall_const, false_implies, implies_true, and_self, Bool.false_eq_true, Nat.reduceEqDiff, false_and, and_false, Nat.reduceSub, s1, s6, s15, sp, hp, p1, ha, hn, g, fq, g2]
theorem cl_admit_yes (v P p a n c w t : Nat) (σ : zs_S) (Q : zs_Q) (hs : crp σ v P) (hp : p < P) (hP : P ≤ 4) (ha : zs_I σ (v + 8 + 4 * p) 1 = nI a) (hn : zs_I σ v 3 = nI n) (hc : zs_I σ (v + 8 + 4 * p) 4 = nI c) (hc10 : c < 10) (hn1 : n ≤ 100) (han : a < n) (hw : zs_R σ (v + 2) a = some w) (hk : zs_K σ w = (6, 0)) (ht : zs_I σ w 0 = nI t)
    (h1 : ctp σ w (zs_I σ (v + 8 + 4 * p) 0) → Q (some (.int (nI t))) (zs_pI (zs_pI (zs_pR (zs_pI σ (v + 8 + 4 * p) 1 (nI (a + 1))) (v + 9 + 4 * p) c (some w)) (v + 10 + 4 * p) c (nI 0)) (v + 8 + 4 * p) 4 (nI (c + 1)))) (h2 : ¬ ctp σ w (zs_I σ (v + 8 + 4 * p) 0) → Q (some (.int (nI t))) (zs_pI σ (v + 8 + 4 * p) 1 (nI (a + 1)))) : zw_Rp_admitNext [.ref v, .int (nI p)] σ Q := by
  obtain ⟨s1, s2, s3, s4, s5, s6, s7, s8, s9, s10, s11, s12, s13, s14, s15, s16⟩ := hs
  obtain ⟨sp, hpt⟩ := s16 p hp
  have p1 := hpt.1
  have p6 : zs_K σ (v + 10 + 4 * p) = (101, 10) := hpt.2.2.2.2.2.1
  have g : ¬ n ≤ a := by omega
  have g2 : ¬ c = 10 := by omega
  have g3 : a < 100 := by omega
  have d1 : ¬ w = v + 8 + 4 * p := fun z => by rw [z, p1] at hk; exact absurd hk (by decide)
  have d2 : ¬ w = v + 10 + 4 * p := fun z => by rw [z, p6] at hk; exact absurd hk (by decide)
  have d3 : ¬ v + 2 = v + 9 + 4 * p := by omega
  have fq := fun Q' => cl_isFull _ _ _ _ c σ Q' hpt hc (by omega)
  simp (disch := omega) only [zw_Rp_admitNext, ze_Rp_admitNext_0, ze_Rp_admitNext_18, ze_Rp_admitNext_32, zt_ild, zt_ald, zt_ist, zt_ast, zt_inc, zt_psh, zt_nul, zt_bin, zt_div, zt_if, zt_cmp, zt_ifn, zt_dup, zt_du2, zt_pop, zt_gtI, zt_gtR, zt_ptI, zt_ptZ, zt_ptR, zt_xld, zt_rld, zt_ias, zt_zas, zt_ras, zt_len, zt_irt, zt_zrt, zt_art, zt_vrt, zt_cal, zt_cav, zt_cai, zt_cas, zt_dfl, zt_oin, zt_nwa, zt_nwo, zs_args, zs_rv, zs_fits, zs_c1, Value.category, List.getElem?_cons_zero, List.getElem?_cons_succ, List.set_cons_zero, List.set_cons_succ, List.length_nil, List.length_cons, beq_self_eq_true, Bool.and_self, Bool.and_true, true_and, and_true, Nat.add_zero, Nat.zero_add, Nat.le_refl, Nat.zero_le, Nat.reduceAdd, Nat.reduceLeDiff, Option.toList_some, Option.toList_none, List.nil_append, List.cons_append, zb_0, zb_1, zb_i0, zb_i1, zb_ij, ne_eq, Classical.not_not, zx_n_pI, zx_n_pR, zx_n_pF, zx_n_nw, zx_K_pI, zx_K_pR, zx_K_pF, zx_R_pI, zx_R_pF, zx_I_pR, zx_I_eq, zx_I_ne, zx_I_ek, zx_R_eq, zx_R_ne, zx_R_ek, nI_clamp, zn_in, nI_add, zn_mul, nI_leI, nI_ltI, nI_eq, reduceIte, Nat.reduceLT, Nat.reduceMul, Nat.reducePow, zup_at, zvp_at, zn_z, zn_o, eq_self, or_true, true_or, or_false, false_or, zb_0, zb_1, zb_ik, zn_m, zn_rm, zn_sub, zn_div, not_false_eq_true, not_true_eq_false, forall_const, false_implies, implies_true, and_self, Bool.false_eq_true, Nat.reduceEqDiff, false_and, and_false, Nat.reduceSub, s1, s3, s6, s10, s15, sp, hp, p1, ha, hn, g, fq, g2, g3, hw]
  refine cl_take _ _ _ _ c a w σ _ hpt hc hc10 ha hk ?_ ?_
  · intro z
    simp (disch := omega) only [zt_ild, zt_ald, zt_ist, zt_ast, zt_inc, zt_psh, zt_nul, zt_bin, zt_div, zt_if, zt_cmp, zt_ifn, zt_dup, zt_du2, zt_pop, zt_gtI, zt_gtR, zt_ptI, zt_ptZ, zt_ptR, zt_xld, zt_rld, zt_ias, zt_zas, zt_ras, zt_len, zt_irt, zt_zrt, zt_art, zt_vrt, zt_cal, zt_cav, zt_cai, zt_cas, zt_dfl, zt_oin, zt_nwa, zt_nwo, zs_args, zs_rv, zs_fits, zs_c1, Value.category, List.getElem?_cons_zero, List.getElem?_cons_succ, List.set_cons_zero, List.set_cons_succ, List.length_nil, List.length_cons, beq_self_eq_true, Bool.and_self, Bool.and_true, true_and, and_true, Nat.add_zero, Nat.zero_add, Nat.le_refl, Nat.zero_le, Nat.reduceAdd, Nat.reduceLeDiff, Option.toList_some, Option.toList_none, List.nil_append, List.cons_append, zb_0, zb_1, zb_i0, zb_i1, zb_ij, ne_eq, Classical.not_not, zx_n_pI, zx_n_pR, zx_n_pF, zx_n_nw, zx_K_pI, zx_K_pR, zx_K_pF, zx_R_pI, zx_R_pF, zx_I_pR, zx_I_eq, zx_I_ne, zx_I_ek, zx_R_eq, zx_R_ne, zx_R_ek, nI_clamp, zn_in, nI_add, zn_mul, nI_leI, nI_ltI, nI_eq, reduceIte, Nat.reduceLT, Nat.reduceMul, Nat.reducePow, zup_at, zvp_at, zn_z, zn_o, eq_self, or_true, true_or, or_false, false_or, zb_0, zb_1, zb_ik, zn_m, zn_rm, zn_sub, zn_div, not_false_eq_true, not_true_eq_false, forall_const, false_implies, implies_true, and_self, Bool.false_eq_true, Nat.reduceEqDiff, false_and, and_false, Nat.reduceSub, s1, s3, s10, g3, hw, hk, ht]
    exact h1 z
  · intro z
    simp (disch := omega) only [zt_ild, zt_ald, zt_ist, zt_ast, zt_inc, zt_psh, zt_nul, zt_bin, zt_div, zt_if, zt_cmp, zt_ifn, zt_dup, zt_du2, zt_pop, zt_gtI, zt_gtR, zt_ptI, zt_ptZ, zt_ptR, zt_xld, zt_rld, zt_ias, zt_zas, zt_ras, zt_len, zt_irt, zt_zrt, zt_art, zt_vrt, zt_cal, zt_cav, zt_cai, zt_cas, zt_dfl, zt_oin, zt_nwa, zt_nwo, zs_args, zs_rv, zs_fits, zs_c1, Value.category, List.getElem?_cons_zero, List.getElem?_cons_succ, List.set_cons_zero, List.set_cons_succ, List.length_nil, List.length_cons, beq_self_eq_true, Bool.and_self, Bool.and_true, true_and, and_true, Nat.add_zero, Nat.zero_add, Nat.le_refl, Nat.zero_le, Nat.reduceAdd, Nat.reduceLeDiff, Option.toList_some, Option.toList_none, List.nil_append, List.cons_append, zb_0, zb_1, zb_i0, zb_i1, zb_ij, ne_eq, Classical.not_not, zx_n_pI, zx_n_pR, zx_n_pF, zx_n_nw, zx_K_pI, zx_K_pR, zx_K_pF, zx_R_pI, zx_R_pF, zx_I_pR, zx_I_eq, zx_I_ne, zx_I_ek, zx_R_eq, zx_R_ne, zx_R_ek, nI_clamp, zn_in, nI_add, zn_mul, nI_leI, nI_ltI, nI_eq, reduceIte, Nat.reduceLT, Nat.reduceMul, Nat.reducePow, zup_at, zvp_at, zn_z, zn_o, eq_self, or_true, true_or, or_false, false_or, zb_0, zb_1, zb_ik, zn_m, zn_rm, zn_sub, zn_div, not_false_eq_true, not_true_eq_false, forall_const, false_implies, implies_true, and_self, Bool.false_eq_true, Nat.reduceEqDiff, false_and, and_false, Nat.reduceSub, s1, s3, s10, g3, hw, hk, ht]
    exact h2 z
def cckp (σ : zs_S) (v a : Nat) : zs_S := zs_pI (zs_pF σ (v + 3) (fun q => if q < 12 then zs_I σ (v + 4) q else zs_I σ (v + 3) q)) v 5 (nI a)
theorem cl_makeCheckpoint (v P : Nat) (aa cc : Nat → Nat) (σ : zs_S) (Q : zs_Q) (hs : crp σ v P) (hP : P ≤ 4) (hP0 : 0 < P) (hp : ∀ p, p < P → zs_I σ (v + 8 + 4 * p) 1 = nI (aa p) ∧ zs_I σ (v + 8 + 4 * p) 4 = nI (cc p) ∧ cc p ≤ aa p ∧ aa p ≤ 100)
    (h1 : (∀ p, p < P → aa p = aa 0 ∧ cc p = 0) → Q (some (.int (nI (aa 0)))) (cckp σ v (aa 0))) (h2 : (¬ ∀ p, p < P → aa p = aa 0 ∧ cc p = 0) → Q (some (.int (-1))) σ) : zw_Rp_makeCheckpoint [.ref v] σ Q := by
  obtain ⟨s1, s2, s3, s4, s5, s6, s7, s8, s9, s10, s11, s12, s13, s14, s15, s16⟩ := hs
  obtain ⟨sp0, hpt0⟩ := s16 0 hP0
  have p10 := hpt0.1
  obtain ⟨a10, a20, a30, a40⟩ := hp 0 hP0
  simp (disch := omega) only [zw_Rp_makeCheckpoint, ze_Rp_makeCheckpoint_0, zt_ild, zt_ald, zt_ist, zt_ast, zt_inc, zt_psh, zt_nul, zt_bin, zt_div, zt_if, zt_cmp, zt_ifn, zt_dup, zt_du2, zt_pop, zt_gtI, zt_gtR, zt_ptI, zt_ptZ, zt_ptR, zt_xld, zt_rld, zt_ias, zt_zas, zt_ras, zt_len, zt_irt, zt_zrt, zt_art, zt_vrt, zt_cal, zt_cav, zt_cai, zt_cas, zt_dfl, zt_oin, zt_nwa, zt_nwo, zs_args, zs_rv, zs_fits, zs_c1, Value.category, List.getElem?_cons_zero, List.getElem?_cons_succ, List.set_cons_zero, List.set_cons_succ, List.length_nil, List.length_cons, beq_self_eq_true, Bool.and_self, Bool.and_true, true_and, and_true, Nat.add_zero, Nat.zero_add, Nat.le_refl, Nat.zero_le, Nat.reduceAdd, Nat.reduceLeDiff, Option.toList_some, Option.toList_none, List.nil_append, List.cons_append, zb_0, zb_1, zb_i0, zb_i1, zb_ij, ne_eq, Classical.not_not, zx_n_pI, zx_n_pR, zx_n_pF, zx_n_nw, zx_K_pI, zx_K_pR, zx_K_pF, zx_R_pI, zx_R_pF, zx_I_pR, zx_I_eq, zx_I_ne, zx_I_ek, zx_R_eq, zx_R_ne, zx_R_ek, nI_clamp, zn_in, nI_add, zn_mul, nI_leI, nI_ltI, nI_eq, reduceIte, Nat.reduceLT, Nat.reduceMul, Nat.reducePow, zup_at, zvp_at, zn_z, zn_o, eq_self, or_true, true_or, or_false, false_or, zb_0, zb_1, zb_ik, zn_m, zn_rm, zn_sub, zn_div, not_false_eq_true, not_true_eq_false, forall_const, false_implies, implies_true, and_self, Bool.false_eq_true, Nat.reduceEqDiff, false_and, and_false, Nat.reduceSub, s1, s6, s15, sp0, hP0, p10, a10]
  refine zx_loop (body := zb_Rp_makeCheckpoint_12 Q) (c := 0) (s := 0) (fun p : Nat => [some (.ref v), some (.int (nI (aa 0))), some (.int (nI p))]) (fun _ => σ) (fun p => P - p) (fun p => p ≤ P ∧ ∀ q, q < p → aa q = aa 0 ∧ cc q = 0) ?_ 0 ⟨Nat.zero_le _, fun i hi => absurd hi (Nat.not_lt_zero i)⟩
  rintro p ⟨a1, a2⟩ K hK
  by_cases gp : p = P
  · subst gp
    have hq := h1 a2
    simp (disch := (first | omega | assumption)) only [ze_Rp_makeCheckpoint_12, ze_Rp_makeCheckpoint_55, zt_ild, zt_ald, zt_ist, zt_ast, zt_inc, zt_psh, zt_nul, zt_bin, zt_div, zt_if, zt_cmp, zt_ifn, zt_dup, zt_du2, zt_pop, zt_gtI, zt_gtR, zt_ptI, zt_ptZ, zt_ptR, zt_xld, zt_rld, zt_ias, zt_zas, zt_ras, zt_len, zt_irt, zt_zrt, zt_art, zt_vrt, zt_cal, zt_cav, zt_cai, zt_cas, zt_dfl, zt_oin, zt_nwa, zt_nwo, zs_args, zs_rv, zs_fits, zs_c1, Value.category, List.getElem?_cons_zero, List.getElem?_cons_succ, List.set_cons_zero, List.set_cons_succ, List.length_nil, List.length_cons, beq_self_eq_true, Bool.and_self, Bool.and_true, true_and, and_true, Nat.add_zero, Nat.zero_add, Nat.le_refl, Nat.zero_le, Nat.reduceAdd, Nat.reduceLeDiff, Option.toList_some, Option.toList_none, List.nil_append, List.cons_append, zb_0, zb_1, zb_i0, zb_i1, zb_ij, ne_eq, Classical.not_not, zx_n_pI, zx_n_pR, zx_n_pF, zx_n_nw, zx_K_pI, zx_K_pR, zx_K_pF, zx_R_pI, zx_R_pF, zx_I_pR, zx_I_eq, zx_I_ne, zx_I_ek, zx_R_eq, zx_R_ne, zx_R_ek, nI_clamp, zn_in, nI_add, zn_mul, nI_leI, nI_ltI, nI_eq, reduceIte, Nat.reduceLT, Nat.reduceMul, Nat.reducePow, zup_at, zvp_at, zn_z, zn_o, eq_self, or_true, true_or, or_false, false_or, zb_0, zb_1, zb_ik, zn_m, zn_rm, zn_sub, zn_div, not_false_eq_true, not_true_eq_false, forall_const, false_implies, implies_true, and_self, Bool.false_eq_true, Nat.reduceEqDiff, false_and, and_false, Nat.reduceSub, s1, s4, s5, s6, s15, zt_jcp12, s11, s12]
    exact hq
  · have e1 : ¬ P ≤ p := by omega
    have e2 : p < P := by omega
    obtain ⟨sp, hpt⟩ := s16 p e2
    obtain ⟨b1, b2, b3, b4⟩ := hp p e2
    have p1 := hpt.1
    have fq := fun Q' => cl_finCount _ _ _ _ (cc p) (aa p) σ Q' hpt b2 b1 b3
    by_cases g1 : aa p = aa 0
    · by_cases g2 : cc p = 0
      · have k1 := hK (p + 1) (by omega) ⟨by omega, fun q hq => by
          by_cases e : q = p
          · subst e; exact ⟨g1, g2⟩
          · exact a2 q (by omega)⟩
        have g3 : aa p - cc p = aa 0 := by omega
        simp (disch := omega) only [ze_Rp_makeCheckpoint_12, ze_Rp_makeCheckpoint_21, ze_Rp_makeCheckpoint_34, ze_Rp_makeCheckpoint_49, zt_ild, zt_ald, zt_ist, zt_ast, zt_inc, zt_psh, zt_nul, zt_bin, zt_div, zt_if, zt_cmp, zt_ifn, zt_dup, zt_du2, zt_pop, zt_gtI, zt_gtR, zt_ptI, zt_ptZ, zt_ptR, zt_xld, zt_rld, zt_ias, zt_zas, zt_ras, zt_len, zt_irt, zt_zrt, zt_art, zt_vrt, zt_cal, zt_cav, zt_cai, zt_cas, zt_dfl, zt_oin, zt_nwa, zt_nwo, zs_args, zs_rv, zs_fits, zs_c1, Value.category, List.getElem?_cons_zero, List.getElem?_cons_succ, List.set_cons_zero, List.set_cons_succ, List.length_nil, List.length_cons, beq_self_eq_true, Bool.and_self, Bool.and_true, true_and, and_true, Nat.add_zero, Nat.zero_add, Nat.le_refl, Nat.zero_le, Nat.reduceAdd, Nat.reduceLeDiff, Option.toList_some, Option.toList_none, List.nil_append, List.cons_append, zb_0, zb_1, zb_i0, zb_i1, zb_ij, ne_eq, Classical.not_not, zx_n_pI, zx_n_pR, zx_n_pF, zx_n_nw, zx_K_pI, zx_K_pR, zx_K_pF, zx_R_pI, zx_R_pF, zx_I_pR, zx_I_eq, zx_I_ne, zx_I_ek, zx_R_eq, zx_R_ne, zx_R_ek, nI_clamp, zn_in, nI_add, zn_mul, nI_leI, nI_ltI, nI_eq, reduceIte, Nat.reduceLT, Nat.reduceMul, Nat.reducePow, zup_at, zvp_at, zn_z, zn_o, eq_self, or_true, true_or, or_false, false_or, zb_0, zb_1, zb_ik, zn_m, zn_rm, zn_sub, zn_div, not_false_eq_true, not_true_eq_false, forall_const, false_implies, implies_true, and_self, Bool.false_eq_true, Nat.reduceEqDiff, false_and, and_false, Nat.reduceSub, s1, s6, s15, e1, e2, sp, p1, b1, g1, fq]
        rw [g2]
        simp (disch := omega) only [ze_Rp_makeCheckpoint_49, zt_ild, zt_ald, zt_ist, zt_ast, zt_inc, zt_psh, zt_nul, zt_bin, zt_div, zt_if, zt_cmp, zt_ifn, zt_dup, zt_du2, zt_pop, zt_gtI, zt_gtR, zt_ptI, zt_ptZ, zt_ptR, zt_xld, zt_rld, zt_ias, zt_zas, zt_ras, zt_len, zt_irt, zt_zrt, zt_art, zt_vrt, zt_cal, zt_cav, zt_cai, zt_cas, zt_dfl, zt_oin, zt_nwa, zt_nwo, zs_args, zs_rv, zs_fits, zs_c1, Value.category, List.getElem?_cons_zero, List.getElem?_cons_succ, List.set_cons_zero, List.set_cons_succ, List.length_nil, List.length_cons, beq_self_eq_true, Bool.and_self, Bool.and_true, true_and, and_true, Nat.add_zero, Nat.zero_add, Nat.le_refl, Nat.zero_le, Nat.reduceAdd, Nat.reduceLeDiff, Option.toList_some, Option.toList_none, List.nil_append, List.cons_append, zb_0, zb_1, zb_i0, zb_i1, zb_ij, ne_eq, Classical.not_not, zx_n_pI, zx_n_pR, zx_n_pF, zx_n_nw, zx_K_pI, zx_K_pR, zx_K_pF, zx_R_pI, zx_R_pF, zx_I_pR, zx_I_eq, zx_I_ne, zx_I_ek, zx_R_eq, zx_R_ne, zx_R_ek, nI_clamp, zn_in, nI_add, zn_mul, nI_leI, nI_ltI, nI_eq, reduceIte, Nat.reduceLT, Nat.reduceMul, Nat.reducePow, zup_at, zvp_at, zn_z, zn_o, eq_self, or_true, true_or, or_false, false_or, zb_0, zb_1, zb_ik, zn_m, zn_rm, zn_sub, zn_div, not_false_eq_true, not_true_eq_false, forall_const, false_implies, implies_true, and_self, Bool.false_eq_true, Nat.reduceEqDiff, false_and, and_false, Nat.reduceSub, Nat.sub_zero]
        exact k1
      · have g3 : ¬ aa 0 - cc p = aa 0 := by omega
        simp (disch := omega) only [ze_Rp_makeCheckpoint_12, ze_Rp_makeCheckpoint_21, ze_Rp_makeCheckpoint_34, ze_Rp_makeCheckpoint_47, zt_ild, zt_ald, zt_ist, zt_ast, zt_inc, zt_psh, zt_nul, zt_bin, zt_div, zt_if, zt_cmp, zt_ifn, zt_dup, zt_du2, zt_pop, zt_gtI, zt_gtR, zt_ptI, zt_ptZ, zt_ptR, zt_xld, zt_rld, zt_ias, zt_zas, zt_ras, zt_len, zt_irt, zt_zrt, zt_art, zt_vrt, zt_cal, zt_cav, zt_cai, zt_cas, zt_dfl, zt_oin, zt_nwa, zt_nwo, zs_args, zs_rv, zs_fits, zs_c1, Value.category, List.getElem?_cons_zero, List.getElem?_cons_succ, List.set_cons_zero, List.set_cons_succ, List.length_nil, List.length_cons, beq_self_eq_true, Bool.and_self, Bool.and_true, true_and, and_true, Nat.add_zero, Nat.zero_add, Nat.le_refl, Nat.zero_le, Nat.reduceAdd, Nat.reduceLeDiff, Option.toList_some, Option.toList_none, List.nil_append, List.cons_append, zb_0, zb_1, zb_i0, zb_i1, zb_ij, ne_eq, Classical.not_not, zx_n_pI, zx_n_pR, zx_n_pF, zx_n_nw, zx_K_pI, zx_K_pR, zx_K_pF, zx_R_pI, zx_R_pF, zx_I_pR, zx_I_eq, zx_I_ne, zx_I_ek, zx_R_eq, zx_R_ne, zx_R_ek, nI_clamp, zn_in, nI_add, zn_mul, nI_leI, nI_ltI, nI_eq, reduceIte, Nat.reduceLT, Nat.reduceMul, Nat.reducePow, zup_at, zvp_at, zn_z, zn_o, eq_self, or_true, true_or, or_false, false_or, zb_0, zb_1, zb_ik, zn_m, zn_rm, zn_sub, zn_div, not_false_eq_true, not_true_eq_false, forall_const, false_implies, implies_true, and_self, Bool.false_eq_true, Nat.reduceEqDiff, false_and, and_false, Nat.reduceSub, s1, s6, s15, e1, e2, sp, p1, b1, g1, fq, g3]
        exact h2 (fun z => g2 (z p e2).2)
    · simp (disch := omega) only [ze_Rp_makeCheckpoint_12, ze_Rp_makeCheckpoint_21, ze_Rp_makeCheckpoint_47, zt_ild, zt_ald, zt_ist, zt_ast, zt_inc, zt_psh, zt_nul, zt_bin, zt_div, zt_if, zt_cmp, zt_ifn, zt_dup, zt_du2, zt_pop, zt_gtI, zt_gtR, zt_ptI, zt_ptZ, zt_ptR, zt_xld, zt_rld, zt_ias, zt_zas, zt_ras, zt_len, zt_irt, zt_zrt, zt_art, zt_vrt, zt_cal, zt_cav, zt_cai, zt_cas, zt_dfl, zt_oin, zt_nwa, zt_nwo, zs_args, zs_rv, zs_fits, zs_c1, Value.category, List.getElem?_cons_zero, List.getElem?_cons_succ, List.set_cons_zero, List.set_cons_succ, List.length_nil, List.length_cons, beq_self_eq_true, Bool.and_self, Bool.and_true, true_and, and_true, Nat.add_zero, Nat.zero_add, Nat.le_refl, Nat.zero_le, Nat.reduceAdd, Nat.reduceLeDiff, Option.toList_some, Option.toList_none, List.nil_append, List.cons_append, zb_0, zb_1, zb_i0, zb_i1, zb_ij, ne_eq, Classical.not_not, zx_n_pI, zx_n_pR, zx_n_pF, zx_n_nw, zx_K_pI, zx_K_pR, zx_K_pF, zx_R_pI, zx_R_pF, zx_I_pR, zx_I_eq, zx_I_ne, zx_I_ek, zx_R_eq, zx_R_ne, zx_R_ek, nI_clamp, zn_in, nI_add, zn_mul, nI_leI, nI_ltI, nI_eq, reduceIte, Nat.reduceLT, Nat.reduceMul, Nat.reducePow, zup_at, zvp_at, zn_z, zn_o, eq_self, or_true, true_or, or_false, false_or, zb_0, zb_1, zb_ik, zn_m, zn_rm, zn_sub, zn_div, not_false_eq_true, not_true_eq_false, forall_const, false_implies, implies_true, and_self, Bool.false_eq_true, Nat.reduceEqDiff, false_and, and_false, Nat.reduceSub, s1, s6, s15, e1, e2, sp, p1, b1, g1]
      exact h2 (fun z => g1 (z p e2).1)
/-- a replica begins from its checkpoint: the first n partitions are done -/
def cbg (σ : zs_S) (v n : Nat) : zs_S := (zs_n σ, zs_K σ, fun w q => if w = v + 4 then (if q < 12 then zs_I σ (v + 3) q else zs_I σ (v + 4) q) else if v + 8 ≤ w ∧ w < v + 8 + 4 * n ∧ (w - v) % 4 = 0 ∧ q = 1 then zs_I σ v 5 else if v + 8 ≤ w ∧ w < v + 8 + 4 * n ∧ (w - v) % 4 = 0 ∧ q = 4 then nI 0 else if v + 8 ≤ w ∧ w < v + 8 + 4 * n ∧ (w - v) % 4 = 3 ∧ q < 100 then nI 0 else zs_I σ w q, zs_R σ)
theorem cbg_I (σ : zs_S) (v n w q : Nat) : zs_I (cbg σ v n) w q = if w = v + 4 then (if q < 12 then zs_I σ (v + 3) q else zs_I σ (v + 4) q) else if v + 8 ≤ w ∧ w < v + 8 + 4 * n ∧ (w - v) % 4 = 0 ∧ q = 1 then zs_I σ v 5 else if v + 8 ≤ w ∧ w < v + 8 + 4 * n ∧ (w - v) % 4 = 0 ∧ q = 4 then nI 0 else if v + 8 ≤ w ∧ w < v + 8 + 4 * n ∧ (w - v) % 4 = 3 ∧ q < 100 then nI 0 else zs_I σ w q := rfl
theorem cbg_K (σ : zs_S) (v n : Nat) : zs_K (cbg σ v n) = zs_K σ := rfl
theorem cbg_R (σ : zs_S) (v n : Nat) : zs_R (cbg σ v n) = zs_R σ := rfl
theorem cl_beginFrom (v P : Nat) (σ : zs_S) (Q : zs_Q) (hs : crp σ v P) (hP : P ≤ 4) (h : Q none (cbg σ v P)) : zw_Rp_beginFromCheckpoint [.ref v] σ Q := by
  have hs' := hs
  obtain ⟨s1, s2, s3, s4, s5, s6, s7, s8, s9, s10, s11, s12, s13, s14, s15, s16⟩ := hs
  simp (disch := (first | omega | assumption)) only [zw_Rp_beginFromCheckpoint, ze_Rp_beginFromCheckpoint_0, zt_ild, zt_ald, zt_ist, zt_ast, zt_inc, zt_psh, zt_nul, zt_bin, zt_div, zt_if, zt_cmp, zt_ifn, zt_dup, zt_du2, zt_pop, zt_gtI, zt_gtR, zt_ptI, zt_ptZ, zt_ptR, zt_xld, zt_rld, zt_ias, zt_zas, zt_ras, zt_len, zt_irt, zt_zrt, zt_art, zt_vrt, zt_cal, zt_cav, zt_cai, zt_cas, zt_dfl, zt_oin, zt_nwa, zt_nwo, zs_args, zs_rv, zs_fits, zs_c1, Value.category, List.getElem?_cons_zero, List.getElem?_cons_succ, List.set_cons_zero, List.set_cons_succ, List.length_nil, List.length_cons, beq_self_eq_true, Bool.and_self, Bool.and_true, true_and, and_true, Nat.add_zero, Nat.zero_add, Nat.le_refl, Nat.zero_le, Nat.reduceAdd, Nat.reduceLeDiff, Option.toList_some, Option.toList_none, List.nil_append, List.cons_append, zb_0, zb_1, zb_i0, zb_i1, zb_ij, ne_eq, Classical.not_not, zx_n_pI, zx_n_pR, zx_n_pF, zx_n_nw, zx_K_pI, zx_K_pR, zx_K_pF, zx_R_pI, zx_R_pF, zx_I_pR, zx_I_eq, zx_I_ne, zx_I_ek, zx_R_eq, zx_R_ne, zx_R_ek, nI_clamp, zn_in, nI_add, zn_mul, nI_leI, nI_ltI, nI_eq, reduceIte, Nat.reduceLT, Nat.reduceMul, Nat.reducePow, zup_at, zvp_at, zn_z, zn_o, eq_self, or_true, true_or, or_false, false_or, zb_0, zb_1, zb_ik, zn_m, zn_rm, zn_sub, zn_div, not_false_eq_true, not_true_eq_false, forall_const, false_implies, implies_true, and_self, Bool.false_eq_true, Nat.reduceEqDiff, false_and, and_false, Nat.reduceSub, s1, s4, s5, zt_jcp12, s11, s12]
  have hz := zx_for (body := zb_Rp_beginFromCheckpoint_17 Q) (c := 0) (s := 0) (fun p => [some (.ref v), some (.int (nI p))]) (fun p => cbg σ v p) P 0 ?_ ?_ (Nat.zero_le _)
  · have e : cbg σ v 0 = zs_pF σ (v + 4) (fun q => if q < 12 then zs_I σ (v + 3) q else zs_I σ (v + 4) q) := by
      refine zs_ext rfl rfl (fun w q => ?_) (fun w q => rfl)
      rw [cbg_I, zx_I_pF]
      by_cases h1 : w = v + 4
      · rw [if_pos h1, if_pos h1]
      · rw [if_neg h1, if_neg h1, if_neg (by omega), if_neg (by omega), if_neg (by omega)]
    rw [e] at hz
    exact hz
  · intro p _ hp K hK
    have e1 : ¬ P ≤ p := by omega
    obtain ⟨sp, hpt⟩ := s16 p hp
    have p1 := hpt.1
    have c1 : zs_R (cbg σ v p) v 7 = some (v + 7) := s6
    have c2 : zs_R (cbg σ v p) (v + 7) p = some (v + 8 + 4 * p) := sp
    have c3 : zs_I (cbg σ v p) v 5 = zs_I σ v 5 := by rw [cbg_I, if_neg (by omega), if_neg (by omega), if_neg (by omega), if_neg (by omega)]
    simp (disch := omega) only [ze_Rp_beginFromCheckpoint_17, ze_Rp_beginFromCheckpoint_26, zt_ild, zt_ald, zt_ist, zt_ast, zt_inc, zt_psh, zt_nul, zt_bin, zt_div, zt_if, zt_cmp, zt_ifn, zt_dup, zt_du2, zt_pop, zt_gtI, zt_gtR, zt_ptI, zt_ptZ, zt_ptR, zt_xld, zt_rld, zt_ias, zt_zas, zt_ras, zt_len, zt_irt, zt_zrt, zt_art, zt_vrt, zt_cal, zt_cav, zt_cai, zt_cas, zt_dfl, zt_oin, zt_nwa, zt_nwo, zs_args, zs_rv, zs_fits, zs_c1, Value.category, List.getElem?_cons_zero, List.getElem?_cons_succ, List.set_cons_zero, List.set_cons_succ, List.length_nil, List.length_cons, beq_self_eq_true, Bool.and_self, Bool.and_true, true_and, and_true, Nat.add_zero, Nat.zero_add, Nat.le_refl, Nat.zero_le, Nat.reduceAdd, Nat.reduceLeDiff, Option.toList_some, Option.toList_none, List.nil_append, List.cons_append, zb_0, zb_1, zb_i0, zb_i1, zb_ij, ne_eq, Classical.not_not, zx_n_pI, zx_n_pR, zx_n_pF, zx_n_nw, zx_K_pI, zx_K_pR, zx_K_pF, zx_R_pI, zx_R_pF, zx_I_pR, zx_I_eq, zx_I_ne, zx_I_ek, zx_R_eq, zx_R_ne, zx_R_ek, nI_clamp, zn_in, nI_add, zn_mul, nI_leI, nI_ltI, nI_eq, reduceIte, Nat.reduceLT, Nat.reduceMul, Nat.reducePow, zup_at, zvp_at, zn_z, zn_o, eq_self, or_true, true_or, or_false, false_or, zb_0, zb_1, zb_ik, zn_m, zn_rm, zn_sub, zn_div, not_false_eq_true, not_true_eq_false, forall_const, false_implies, implies_true, and_self, Bool.false_eq_true, Nat.reduceEqDiff, false_and, and_false, Nat.reduceSub, cbg_K, s1, s15, p1, c1, c2, c3, e1, hp]
    refine cl_beginBehind (v + 8 + 4 * p) (v + 9 + 4 * p) (v + 10 + 4 * p) (v + 11 + 4 * p) _ _ _ (cpt_of (σ := σ) rfl (fun _ => rfl) hpt) ?_
    simp (disch := omega) only [zt_ild, zt_ald, zt_ist, zt_ast, zt_inc, zt_psh, zt_nul, zt_bin, zt_div, zt_if, zt_cmp, zt_ifn, zt_dup, zt_du2, zt_pop, zt_gtI, zt_gtR, zt_ptI, zt_ptZ, zt_ptR, zt_xld, zt_rld, zt_ias, zt_zas, zt_ras, zt_len, zt_irt, zt_zrt, zt_art, zt_vrt, zt_cal, zt_cav, zt_cai, zt_cas, zt_dfl, zt_oin, zt_nwa, zt_nwo, zs_args, zs_rv, zs_fits, zs_c1, Value.category, List.getElem?_cons_zero, List.getElem?_cons_succ, List.set_cons_zero, List.set_cons_succ, List.length_nil, List.length_cons, beq_self_eq_true, Bool.and_self, Bool.and_true, true_and, and_true, Nat.add_zero, Nat.zero_add, Nat.le_refl, Nat.zero_le, Nat.reduceAdd, Nat.reduceLeDiff, Option.toList_some, Option.toList_none, List.nil_append, List.cons_append, zb_0, zb_1, zb_i0, zb_i1, zb_ij, ne_eq, Classical.not_not, zx_n_pI, zx_n_pR, zx_n_pF, zx_n_nw, zx_K_pI, zx_K_pR, zx_K_pF, zx_R_pI, zx_R_pF, zx_I_pR, zx_I_eq, zx_I_ne, zx_I_ek, zx_R_eq, zx_R_ne, zx_R_ek, nI_clamp, zn_in, nI_add, zn_mul, nI_leI, nI_ltI, nI_eq, reduceIte, Nat.reduceLT, Nat.reduceMul, Nat.reducePow, zup_at, zvp_at, zn_z, zn_o, eq_self, or_true, true_or, or_false, false_or, zb_0, zb_1, zb_ik, zn_m, zn_rm, zn_sub, zn_div, not_false_eq_true, not_true_eq_false, forall_const, false_implies, implies_true, and_self, Bool.false_eq_true, Nat.reduceEqDiff, false_and, and_false, Nat.reduceSub]
    have e : crz (zs_pI (zs_pI (cbg σ v p) (v + 8 + 4 * p) 1 (zs_I σ v 5)) (v + 8 + 4 * p) 4 (nI 0)) (v + 11 + 4 * p) 100 = cbg σ v (p + 1) := by
      refine zs_ext rfl rfl (fun w q => ?_) (fun w q => rfl)
      unfold crz
      rw [zx_I_pF]
      by_cases g2 : w = v + 11 + 4 * p
      · rw [if_pos g2]
        simp only [zx_I_pI, cbg_I]
        subst g2
        have z1 : (v + 11 + 4 * p - v) % 4 = 3 := by omega
        rw [z1]
        by_cases g3 : q < 100
        · rw [if_pos g3, if_neg (by omega), if_neg (by omega), if_neg (by omega), if_pos (by omega)]
        · rw [if_neg g3, if_neg (by omega), if_neg (by omega), if_neg (by omega), if_neg (by omega), if_neg (by omega), if_neg (by omega), if_neg (by omega), if_neg (by omega), if_neg (by omega), if_neg (by omega)]
      · rw [if_neg g2]
        simp only [zx_I_pI, cbg_I]
        by_cases g1 : w = v + 4
        · rw [if_neg (by omega), if_neg (by omega), if_pos g1, if_pos g1]
        · rw [if_neg g1, if_neg g1]
          by_cases g3 : w = v + 8 + 4 * p
          · subst g3
            have z1 : (v + 8 + 4 * p - v) % 4 = 0 := by omega
            rw [z1]
            by_cases g4 : q = 4
            · rw [if_pos ⟨rfl, g4⟩, if_neg (by omega), if_pos (by omega)]
            · rw [if_neg (by omega)]
              by_cases g5 : q = 1
              · rw [if_pos ⟨rfl, g5⟩, if_pos (by omega)]
              · rw [if_neg (by omega), if_neg (by omega), if_neg (by omega), if_neg (by omega), if_neg (by omega), if_neg (by omega), if_neg (by omega)]
          · rw [if_neg (by omega), if_neg (by omega)]
            have i1 : ∀ a, (v + 8 ≤ w ∧ w < v + 8 + 4 * p ∧ (w - v) % 4 = 0 ∧ a) ↔ (v + 8 ≤ w ∧ w < v + 8 + 4 * (p + 1) ∧ (w - v) % 4 = 0 ∧ a) := fun a => ⟨fun z => ⟨z.1, by omega, z.2.2⟩, fun z => ⟨z.1, by omega, z.2.2⟩⟩
            have i2 : ∀ a, (v + 8 ≤ w ∧ w < v + 8 + 4 * p ∧ (w - v) % 4 = 3 ∧ a) ↔ (v + 8 ≤ w ∧ w < v + 8 + 4 * (p + 1) ∧ (w - v) % 4 = 3 ∧ a) := fun a => ⟨fun z => ⟨z.1, by omega, z.2.2⟩, fun z => ⟨z.1, by omega, z.2.2⟩⟩
            simp only [i1, i2]
    rw [e]
    exact hK
  · intro K
    have c1 : zs_R (cbg σ v P) v 7 = some (v + 7) := s6
    simp (disch := omega) only [ze_Rp_beginFromCheckpoint_17, ze_Rp_beginFromCheckpoint_45, zt_ild, zt_ald, zt_ist, zt_ast, zt_inc, zt_psh, zt_nul, zt_bin, zt_div, zt_if, zt_cmp, zt_ifn, zt_dup, zt_du2, zt_pop, zt_gtI, zt_gtR, zt_ptI, zt_ptZ, zt_ptR, zt_xld, zt_rld, zt_ias, zt_zas, zt_ras, zt_len, zt_irt, zt_zrt, zt_art, zt_vrt, zt_cal, zt_cav, zt_cai, zt_cas, zt_dfl, zt_oin, zt_nwa, zt_nwo, zs_args, zs_rv, zs_fits, zs_c1, Value.category, List.getElem?_cons_zero, List.getElem?_cons_succ, List.set_cons_zero, List.set_cons_succ, List.length_nil, List.length_cons, beq_self_eq_true, Bool.and_self, Bool.and_true, true_and, and_true, Nat.add_zero, Nat.zero_add, Nat.le_refl, Nat.zero_le, Nat.reduceAdd, Nat.reduceLeDiff, Option.toList_some, Option.toList_none, List.nil_append, List.cons_append, zb_0, zb_1, zb_i0, zb_i1, zb_ij, ne_eq, Classical.not_not, zx_n_pI, zx_n_pR, zx_n_pF, zx_n_nw, zx_K_pI, zx_K_pR, zx_K_pF, zx_R_pI, zx_R_pF, zx_I_pR, zx_I_eq, zx_I_ne, zx_I_ek, zx_R_eq, zx_R_ne, zx_R_ek, nI_clamp, zn_in, nI_add, zn_mul, nI_leI, nI_ltI, nI_eq, reduceIte, Nat.reduceLT, Nat.reduceMul, Nat.reducePow, zup_at, zvp_at, zn_z, zn_o, eq_self, or_true, true_or, or_false, false_or, zb_0, zb_1, zb_ik, zn_m, zn_rm, zn_sub, zn_div, not_false_eq_true, not_true_eq_false, forall_const, false_implies, implies_true, and_self, Bool.false_eq_true, Nat.reduceEqDiff, false_and, and_false, Nat.reduceSub, cbg_K, s1, s15, c1]
    exact h
/-- the messages under way as a list of codes and incarnations -/
def cpl (σ : zs_S) (L : List (Nat × Nat)) : Prop := zs_I σ 3 2 = nI L.length ∧ ∀ i c x, L[i]? = some (c, x) → zs_I σ 4 i = nI c ∧ zs_I σ 5 i = nI x
def ckeep (r : Nat) (m : Nat × Nat) : Bool := decide (¬ (m.1 / 1000000 = 4 ∧ m.1 / 100000 % 10 = r))
theorem cl_forget (r : Nat) (L : List (Nat × Nat)) (σ : zs_S) (Q : zs_Q) (hs : cpo σ) (hr : r < 2) (hl : cpl σ L) (hL : L.length ≤ 100) (hc : ∀ m, m ∈ L → m.1 < 2 ^ 31) (h : ∀ τ, zs_n τ = zs_n σ → zs_K τ = zs_K σ → zs_R τ = zs_R σ → (∀ w q, ¬ w = 4 → ¬ w = 5 → ¬ (w = 3 ∧ q = 2) → zs_I τ w q = zs_I σ w q) → cpl τ (L.filter (ckeep r)) → Q none τ) : zw_Po_forgetValuesOf [.ref 3, .int (nI r)] σ Q := by
  obtain ⟨s1, s2, s3, s4, s5⟩ := hs
  obtain ⟨l1, l2⟩ := hl
  simp (disch := omega) only [zw_Po_forgetValuesOf, ze_Po_forgetValuesOf_0, zt_ild, zt_ald, zt_ist, zt_ast, zt_inc, zt_psh, zt_nul, zt_bin, zt_div, zt_if, zt_cmp, zt_ifn, zt_dup, zt_du2, zt_pop, zt_gtI, zt_gtR, zt_ptI, zt_ptZ, zt_ptR, zt_xld, zt_rld, zt_ias, zt_zas, zt_ras, zt_len, zt_irt, zt_zrt, zt_art, zt_vrt, zt_cal, zt_cav, zt_cai, zt_cas, zt_dfl, zt_oin, zt_nwa, zt_nwo, zs_args, zs_rv, zs_fits, zs_c1, Value.category, List.getElem?_cons_zero, List.getElem?_cons_succ, List.set_cons_zero, List.set_cons_succ, List.length_nil, List.length_cons, beq_self_eq_true, Bool.and_self, Bool.and_true, true_and, and_true, Nat.add_zero, Nat.zero_add, Nat.le_refl, Nat.zero_le, Nat.reduceAdd, Nat.reduceLeDiff, Option.toList_some, Option.toList_none, List.nil_append, List.cons_append, zb_0, zb_1, zb_i0, zb_i1, zb_ij, ne_eq, Classical.not_not, zx_n_pI, zx_n_pR, zx_n_pF, zx_n_nw, zx_K_pI, zx_K_pR, zx_K_pF, zx_R_pI, zx_R_pF, zx_I_pR, zx_I_eq, zx_I_ne, zx_I_ek, zx_R_eq, zx_R_ne, zx_R_ek, nI_clamp, zn_in, nI_add, zn_mul, nI_leI, nI_ltI, nI_eq, reduceIte, Nat.reduceLT, Nat.reduceMul, Nat.reducePow, zup_at, zvp_at, zn_z, zn_o, eq_self, or_true, true_or, or_false, false_or, zb_0, zb_1, zb_ik, zn_m, zn_rm, zn_sub, zn_div, not_false_eq_true, not_true_eq_false, forall_const, false_implies, implies_true, and_self, Bool.false_eq_true, Nat.reduceEqDiff, false_and, and_false, Nat.reduceSub]
  refine zx_loop (body := zb_Po_forgetValuesOf_4 Q) (c := 0) (s := 0) (fun x : Nat × zs_S => [some (.ref 3), some (.int (nI r)), some (.int (nI ((L.take x.1).filter (ckeep r)).length)), some (.int (nI x.1))]) (fun x => x.2) (fun x => L.length - x.1) (fun x => x.1 ≤ L.length ∧ zs_n x.2 = zs_n σ ∧ zs_K x.2 = zs_K σ ∧ zs_R x.2 = zs_R σ ∧ (∀ w q, ¬ w = 4 → ¬ w = 5 → zs_I x.2 w q = zs_I σ w q) ∧ (∀ q, x.1 ≤ q → zs_I x.2 4 q = zs_I σ 4 q ∧ zs_I x.2 5 q = zs_I σ 5 q) ∧ ∀ i c y, ((L.take x.1).filter (ckeep r))[i]? = some (c, y) → zs_I x.2 4 i = nI c ∧ zs_I x.2 5 i = nI y) ?_ (0, σ) ⟨Nat.zero_le _, rfl, rfl, rfl, fun _ _ _ _ => rfl, fun _ _ => ⟨rfl, rfl⟩, fun i c y z => by simp at z⟩
  rintro ⟨i, τ⟩ ⟨a1, a2, a3, a4, a5, a6, a7⟩ K hK
  dsimp only at a1 a2 a3 a4 a5 a6 a7 hK ⊢
  have c1 : zs_K τ 3 = (2, 0) := by rw [a3]; exact s1
  have c2 : zs_K τ 4 = (100, 100) := by rw [a3]; exact s4
  have c3 : zs_K τ 5 = (100, 100) := by rw [a3]; exact s5
  have c4 : zs_R τ 3 0 = some 4 := by rw [a4]; exact s2
  have c5 : zs_R τ 3 1 = some 5 := by rw [a4]; exact s3
  have c6 : zs_I τ 3 2 = nI L.length := by rw [a5 _ _ (by decide) (by decide)]; exact l1
  by_cases gi : i = L.length
  · subst gi
    rw [List.take_length] at a7
    have hq := h (zs_pI τ 3 2 (nI (L.filter (ckeep r)).length)) a2 a3 a4 (fun w q z1 z2 z3 => by rw [zx_I_pI, if_neg z3]; exact a5 w q z1 z2) ⟨by rw [zx_I_eq], fun i c y z => by rw [zx_I_ne _ _ _ _ (by decide), zx_I_ne _ _ _ _ (by decide)]; exact a7 i c y z⟩
    rw [List.take_length]
    simp (disch := omega) only [ze_Po_forgetValuesOf_4, ze_Po_forgetValuesOf_71, zt_ild, zt_ald, zt_ist, zt_ast, zt_inc, zt_psh, zt_nul, zt_bin, zt_div, zt_if, zt_cmp, zt_ifn, zt_dup, zt_du2, zt_pop, zt_gtI, zt_gtR, zt_ptI, zt_ptZ, zt_ptR, zt_xld, zt_rld, zt_ias, zt_zas, zt_ras, zt_len, zt_irt, zt_zrt, zt_art, zt_vrt, zt_cal, zt_cav, zt_cai, zt_cas, zt_dfl, zt_oin, zt_nwa, zt_nwo, zs_args, zs_rv, zs_fits, zs_c1, Value.category, List.getElem?_cons_zero, List.getElem?_cons_succ, List.set_cons_zero, List.set_cons_succ, List.length_nil, List.length_cons, beq_self_eq_true, Bool.and_self, Bool.and_true, true_and, and_true, Nat.add_zero, Nat.zero_add, Nat.le_refl, Nat.zero_le, Nat.reduceAdd, Nat.reduceLeDiff, Option.toList_some, Option.toList_none, List.nil_append, List.cons_append, zb_0, zb_1, zb_i0, zb_i1, zb_ij, ne_eq, Classical.not_not, zx_n_pI, zx_n_pR, zx_n_pF, zx_n_nw, zx_K_pI, zx_K_pR, zx_K_pF, zx_R_pI, zx_R_pF, zx_I_pR, zx_I_eq, zx_I_ne, zx_I_ek, zx_R_eq, zx_R_ne, zx_R_ek, nI_clamp, zn_in, nI_add, zn_mul, nI_leI, nI_ltI, nI_eq, reduceIte, Nat.reduceLT, Nat.reduceMul, Nat.reducePow, zup_at, zvp_at, zn_z, zn_o, eq_self, or_true, true_or, or_false, false_or, zb_0, zb_1, zb_ik, zn_m, zn_rm, zn_sub, zn_div, not_false_eq_true, not_true_eq_false, forall_const, false_implies, implies_true, and_self, Bool.false_eq_true, Nat.reduceEqDiff, false_and, and_false, Nat.reduceSub, c1, c6]
    exact hq
  · have hi : i < L.length := by omega
    have e1 : ¬ L.length ≤ i := by omega
    have e2 : i < 100 := by omega
    obtain ⟨⟨c, y⟩, hm⟩ : ∃ m, L[i]? = some m := ⟨_, List.getElem?_eq_getElem hi⟩
    have hc1 : c < 2 ^ 31 := hc (c, y) (List.mem_of_getElem? hm)
    obtain ⟨m1, m2⟩ := l2 i c y hm
    have m3 : zs_I τ 4 i = nI c := by rw [(a6 i (Nat.le_refl _)).1]; exact m1
    have m4 : zs_I τ 5 i = nI y := by rw [(a6 i (Nat.le_refl _)).2]; exact m2
    have tk : L.take (i + 1) = L.take i ++ [(c, y)] := by rw [List.take_add_one, hm]; rfl
    have fl : ((L.take i).filter (ckeep r)).length ≤ i := Nat.le_trans (List.length_filter_le _ _) (by rw [List.length_take]; omega)
    have kq := fun Q' => co_kind c hc1 τ Q'
    have oq := fun Q' => co_owner c hc1 τ Q'
    have b1 : c / 1000000 < 2 ^ 31 := by omega
    have b2 : c / 100000 % 10 < 2 ^ 31 := by omega
    cases gk : ckeep r (c, y)
    · have gk' : c / 1000000 = 4 ∧ c / 100000 % 10 = r := by unfold ckeep at gk; simpa using gk
      have ft : (L.take (i + 1)).filter (ckeep r) = (L.take i).filter (ckeep r) := by rw [tk, List.filter_append, List.filter_cons_of_neg (by rw [gk]; exact Bool.false_ne_true), List.filter_nil, List.append_nil]
      have k1 := hK (i + 1, τ) (by dsimp only; omega)
      dsimp only at k1
      rw [ft] at k1
      have k2 := k1 ⟨by omega, a2, a3, a4, a5, fun q hq => a6 q (by omega), a7⟩
      obtain ⟨g1, g2⟩ := gk'
      simp (disch := omega) only [ze_Po_forgetValuesOf_4, ze_Po_forgetValuesOf_12, ze_Po_forgetValuesOf_25, ze_Po_forgetValuesOf_65, zt_ild, zt_ald, zt_ist, zt_ast, zt_inc, zt_psh, zt_nul, zt_bin, zt_div, zt_if, zt_cmp, zt_ifn, zt_dup, zt_du2, zt_pop, zt_gtI, zt_gtR, zt_ptI, zt_ptZ, zt_ptR, zt_xld, zt_rld, zt_ias, zt_zas, zt_ras, zt_len, zt_irt, zt_zrt, zt_art, zt_vrt, zt_cal, zt_cav, zt_cai, zt_cas, zt_dfl, zt_oin, zt_nwa, zt_nwo, zs_args, zs_rv, zs_fits, zs_c1, Value.category, List.getElem?_cons_zero, List.getElem?_cons_succ, List.set_cons_zero, List.set_cons_succ, List.length_nil, List.length_cons, beq_self_eq_true, Bool.and_self, Bool.and_true, true_and, and_true, Nat.add_zero, Nat.zero_add, Nat.le_refl, Nat.zero_le, Nat.reduceAdd, Nat.reduceLeDiff, Option.toList_some, Option.toList_none, List.nil_append, List.cons_append, zb_0, zb_1, zb_i0, zb_i1, zb_ij, ne_eq, Classical.not_not, zx_n_pI, zx_n_pR, zx_n_pF, zx_n_nw, zx_K_pI, zx_K_pR, zx_K_pF, zx_R_pI, zx_R_pF, zx_I_pR, zx_I_eq, zx_I_ne, zx_I_ek, zx_R_eq, zx_R_ne, zx_R_ek, nI_clamp, zn_in, nI_add, zn_mul, nI_leI, nI_ltI, nI_eq, reduceIte, Nat.reduceLT, Nat.reduceMul, Nat.reducePow, zup_at, zvp_at, zn_z, zn_o, eq_self, or_true, true_or, or_false, false_or, zb_0, zb_1, zb_ik, zn_m, zn_rm, zn_sub, zn_div, not_false_eq_true, not_true_eq_false, forall_const, false_implies, implies_true, and_self, Bool.false_eq_true, Nat.reduceEqDiff, false_and, and_false, Nat.reduceSub, c1, c2, c4, c6, e1, e2, m3, kq, oq, g1, g2]
      exact k2
    · have ft : (L.take (i + 1)).filter (ckeep r) = (L.take i).filter (ckeep r) ++ [(c, y)] := by rw [tk, List.filter_append, List.filter_cons_of_pos gk, List.filter_nil]
      generalize hF : (L.take i).filter (ckeep r) = F at *
      have k1 := hK (i + 1, zs_pI (zs_pI τ 4 F.length (nI c)) 5 F.length (nI y)) (by dsimp only; omega)
      dsimp only at k1
      rw [ft, List.length_append, List.length_singleton] at k1
      have k2 := k1 ⟨by omega, a2, a3, a4, fun w q z1 z2 => by rw [zx_I_ne _ _ _ _ z2, zx_I_ne _ _ _ _ z1]; exact a5 w q z1 z2, fun q hq => by
        rw [zx_I_ne _ _ _ _ (by decide), zx_I_ek _ _ _ _ _ (by omega), zx_I_ek _ _ _ _ _ (by omega), zx_I_ne _ _ _ _ (by decide)]
        exact a6 q (by omega), fun j c' y' z => by
        by_cases gj : j = F.length
        · subst gj
          rw [List.getElem?_append_right (Nat.le_refl _), Nat.sub_self] at z
          simp at z
          obtain ⟨rfl, rfl⟩ := z
          rw [zx_I_eq, zx_I_ne _ _ _ _ (by decide), zx_I_eq]
          exact ⟨rfl, rfl⟩
        · have hjl : j < F.length := by
            have := (List.getElem?_eq_some_iff.mp z).1
            rw [List.length_append, List.length_singleton] at this
            omega
          rw [List.getElem?_append_left hjl] at z
          rw [zx_I_ne _ _ _ _ (by decide), zx_I_ek _ _ _ _ _ gj, zx_I_ek _ _ _ _ _ gj, zx_I_ne _ _ _ _ (by decide)]
          exact a7 j c' y' z⟩
      have f2 : F.length < 100 := by omega
      have fin : zb_Po_forgetValuesOf_38 Q K [some (.ref 3), some (.int (nI r)), some (.int (nI F.length)), some (.int (nI i))] [] τ 0 0 := by
        simp (disch := omega) only [ze_Po_forgetValuesOf_38, ze_Po_forgetValuesOf_65, zt_ild, zt_ald, zt_ist, zt_ast, zt_inc, zt_psh, zt_nul, zt_bin, zt_div, zt_if, zt_cmp, zt_ifn, zt_dup, zt_du2, zt_pop, zt_gtI, zt_gtR, zt_ptI, zt_ptZ, zt_ptR, zt_xld, zt_rld, zt_ias, zt_zas, zt_ras, zt_len, zt_irt, zt_zrt, zt_art, zt_vrt, zt_cal, zt_cav, zt_cai, zt_cas, zt_dfl, zt_oin, zt_nwa, zt_nwo, zs_args, zs_rv, zs_fits, zs_c1, Value.category, List.getElem?_cons_zero, List.getElem?_cons_succ, List.set_cons_zero, List.set_cons_succ, List.length_nil, List.length_cons, beq_self_eq_true, Bool.and_self, Bool.and_true, true_and, and_true, Nat.add_zero, Nat.zero_add, Nat.le_refl, Nat.zero_le, Nat.reduceAdd, Nat.reduceLeDiff, Option.toList_some, Option.toList_none, List.nil_append, List.cons_append, zb_0, zb_1, zb_i0, zb_i1, zb_ij, ne_eq, Classical.not_not, zx_n_pI, zx_n_pR, zx_n_pF, zx_n_nw, zx_K_pI, zx_K_pR, zx_K_pF, zx_R_pI, zx_R_pF, zx_I_pR, zx_I_eq, zx_I_ne, zx_I_ek, zx_R_eq, zx_R_ne, zx_R_ek, nI_clamp, zn_in, nI_add, zn_mul, nI_leI, nI_ltI, nI_eq, reduceIte, Nat.reduceLT, Nat.reduceMul, Nat.reducePow, zup_at, zvp_at, zn_z, zn_o, eq_self, or_true, true_or, or_false, false_or, zb_0, zb_1, zb_ik, zn_m, zn_rm, zn_sub, zn_div, not_false_eq_true, not_true_eq_false, forall_const, false_implies, implies_true, and_self, Bool.false_eq_true, Nat.reduceEqDiff, false_and, and_false, Nat.reduceSub, c1, c2, c3, c4, c5, e2, f2, m3, m4]
        exact k2
      by_cases g1 : c / 1000000 = 4
      · have g2 : ¬ c / 100000 % 10 = r := fun z => by unfold ckeep at gk; simp [g1, z] at gk
        simp (disch := omega) only [ze_Po_forgetValuesOf_4, ze_Po_forgetValuesOf_12, ze_Po_forgetValuesOf_25, zt_ild, zt_ald, zt_ist, zt_ast, zt_inc, zt_psh, zt_nul, zt_bin, zt_div, zt_if, zt_cmp, zt_ifn, zt_dup, zt_du2, zt_pop, zt_gtI, zt_gtR, zt_ptI, zt_ptZ, zt_ptR, zt_xld, zt_rld, zt_ias, zt_zas, zt_ras, zt_len, zt_irt, zt_zrt, zt_art, zt_vrt, zt_cal, zt_cav, zt_cai, zt_cas, zt_dfl, zt_oin, zt_nwa, zt_nwo, zs_args, zs_rv, zs_fits, zs_c1, Value.category, List.getElem?_cons_zero, List.getElem?_cons_succ, List.set_cons_zero, List.set_cons_succ, List.length_nil, List.length_cons, beq_self_eq_true, Bool.and_self, Bool.and_true, true_and, and_true, Nat.add_zero, Nat.zero_add, Nat.le_refl, Nat.zero_le, Nat.reduceAdd, Nat.reduceLeDiff, Option.toList_some, Option.toList_none, List.nil_append, List.cons_append, zb_0, zb_1, zb_i0, zb_i1, zb_ij, ne_eq, Classical.not_not, zx_n_pI, zx_n_pR, zx_n_pF, zx_n_nw, zx_K_pI, zx_K_pR, zx_K_pF, zx_R_pI, zx_R_pF, zx_I_pR, zx_I_eq, zx_I_ne, zx_I_ek, zx_R_eq, zx_R_ne, zx_R_ek, nI_clamp, zn_in, nI_add, zn_mul, nI_leI, nI_ltI, nI_eq, reduceIte, Nat.reduceLT, Nat.reduceMul, Nat.reducePow, zup_at, zvp_at, zn_z, zn_o, eq_self, or_true, true_or, or_false, false_or, zb_0, zb_1, zb_ik, zn_m, zn_rm, zn_sub, zn_div, not_false_eq_true, not_true_eq_false, forall_const, false_implies, implies_true, and_self, Bool.false_eq_true, Nat.reduceEqDiff, false_and, and_false, Nat.reduceSub, c1, c2, c4, c6, e1, e2, m3, kq, oq, g1, g2]
        exact fin
      · simp (disch := omega) only [ze_Po_forgetValuesOf_4, ze_Po_forgetValuesOf_12, zt_ild, zt_ald, zt_ist, zt_ast, zt_inc, zt_psh, zt_nul, zt_bin, zt_div, zt_if, zt_cmp, zt_ifn, zt_dup, zt_du2, zt_pop, zt_gtI, zt_gtR, zt_ptI, zt_ptZ, zt_ptR, zt_xld, zt_rld, zt_ias, zt_zas, zt_ras, zt_len, zt_irt, zt_zrt, zt_art, zt_vrt, zt_cal, zt_cav, zt_cai, zt_cas, zt_dfl, zt_oin, zt_nwa, zt_nwo, zs_args, zs_rv, zs_fits, zs_c1, Value.category, List.getElem?_cons_zero, List.getElem?_cons_succ, List.set_cons_zero, List.set_cons_succ, List.length_nil, List.length_cons, beq_self_eq_true, Bool.and_self, Bool.and_true, true_and, and_true, Nat.add_zero, Nat.zero_add, Nat.le_refl, Nat.zero_le, Nat.reduceAdd, Nat.reduceLeDiff, Option.toList_some, Option.toList_none, List.nil_append, List.cons_append, zb_0, zb_1, zb_i0, zb_i1, zb_ij, ne_eq, Classical.not_not, zx_n_pI, zx_n_pR, zx_n_pF, zx_n_nw, zx_K_pI, zx_K_pR, zx_K_pF, zx_R_pI, zx_R_pF, zx_I_pR, zx_I_eq, zx_I_ne, zx_I_ek, zx_R_eq, zx_R_ne, zx_R_ek, nI_clamp, zn_in, nI_add, zn_mul, nI_leI, nI_ltI, nI_eq, reduceIte, Nat.reduceLT, Nat.reduceMul, Nat.reducePow, zup_at, zvp_at, zn_z, zn_o, eq_self, or_true, true_or, or_false, false_or, zb_0, zb_1, zb_ik, zn_m, zn_rm, zn_sub, zn_div, not_false_eq_true, not_true_eq_false, forall_const, false_implies, implies_true, and_self, Bool.false_eq_true, Nat.reduceEqDiff, false_and, and_false, Nat.reduceSub, c1, c2, c4, c6, e1, e2, m3, kq, oq, g1]
        exact fin
