/-! The class: its constructor's loops. -/
theorem cl_SB_init3 (P : Nat) (Q : zs_Q) (h0 : 0 < P) (h4 : P ≤ 4) (x : Int32) (h : ∀ τ, zs_n τ = 40 + 8 * P → csb τ P → csh τ P → (∀ l, l < 3 → csl1 τ l) → (∀ s, s < 2 → css1 τ s) → (∀ r, r < 2 → csr1 τ P (crv P r)) → Q none τ) (τ0 : zs_S) (x1 : zs_n τ0 = 24) (x2 : csh τ0 P) (x3 : ∀ l, l < 3 → csl1 τ0 l) (x4 : ∀ s, s < 2 → css1 τ0 s) : zl_SB_init_128 Q [some (.ref 0), some (.int x), some (.int (nI 0))] [] τ0 23 511 := by
  have hz := zx_cnt (body := zb_SB_init_128 Q) (fun k => [some (.ref 0), some (.int x), some (.int (nI k))]) (fun k => 23 + 25 * k) (fun k => 511 + 910 * k) (fun k τ => zs_n τ = 24 + (8 + 4 * P) * k ∧ csh τ P ∧ (∀ l, l < 3 → csl1 τ l) ∧ (∀ s, s < 2 → css1 τ s) ∧ ∀ r, r < k → zs_R τ 8 r = some (crv P r) ∧ csr1 τ P (crv P r)) 2 ?_ ?_ τ0 ⟨x1, x2, x3, x4, fun p hp => absurd hp (Nat.not_lt_zero p)⟩
  · exact hz
  · rintro k hk τ ⟨y1, y2, y3, y4, y5⟩ K hK
    have vk : 24 + (8 + 4 * P) * k = crv P k := by unfold crv; rcases (show k = 0 ∨ k = 1 by omega) with rfl | rfl <;> simp <;> omega
    rw [vk] at y1
    have v24 : 24 ≤ crv P k := by unfold crv; split <;> omega
    have e3 : ¬ 2 ≤ k := by omega
    have r7 : zs_R τ 0 7 = some 8 := y2.2.2.2.2.2.2.2.2.1
    have k0 : zs_K τ 0 = (7, 0) := y2.1
    have i0 : zs_I τ 0 0 = nI P := y2.2.1
    have f1 : 23 + 25 * k + 1 ≤ 100 := by omega
    have f2 : 511 + 910 * k + 10 ≤ 3000 := by omega
    have f3 : 23 + 25 * k + 1 + 24 ≤ 100 := by omega
    have f4 : 511 + 910 * k + 10 + 900 ≤ 3000 := by omega
    have kn : zs_K (zs_nw τ (3, 0)) (crv P k) = (3, 0) := by rw [zx_K_nw, if_pos y1.symm]
    have c0 : cold τ (zs_nw τ (3, 0)) (crv P k) := cold_nw _ (cold_rfl τ _) (by omega)
    have kn0 : zs_K (zs_nw τ (3, 0)) 0 = (7, 0) := by rw [(c0 0 (by omega)).1]; exact k0
    have in0 : zs_I (zs_nw τ (3, 0)) 0 0 = nI P := by rw [((c0 0 (by omega)).2 0).1]; exact i0
    simp (disch := omega) only [ze_SB_init_128, ze_SB_init_133, zt_ild, zt_ald, zt_ist, zt_ast, zt_inc, zt_psh, zt_nul, zt_bin, zt_div, zt_if, zt_cmp, zt_ifn, zt_dup, zt_du2, zt_pop, zt_gtI, zt_gtR, zt_ptI, zt_ptZ, zt_ptR, zt_xld, zt_rld, zt_ias, zt_zas, zt_ras, zt_len, zt_irt, zt_zrt, zt_art, zt_vrt, zt_cal, zt_cav, zt_cai, zt_cas, zt_dfl, zt_oin, zt_nwa, zt_nwo, zs_args, zs_rv, zs_fits, zs_c1, Value.category, List.getElem?_cons_zero, List.getElem?_cons_succ, List.set_cons_zero, List.set_cons_succ, List.length_nil, List.length_cons, beq_self_eq_true, Bool.and_self, Bool.and_true, true_and, and_true, Nat.add_zero, Nat.zero_add, Nat.le_refl, Nat.zero_le, Nat.reduceAdd, Nat.reduceLeDiff, Option.toList_some, Option.toList_none, List.nil_append, List.cons_append, zb_0, zb_1, zb_i0, zb_i1, zb_ij, ne_eq, Classical.not_not, zx_n_pI, zx_n_pR, zx_n_pF, zx_n_nw, zx_K_pI, zx_K_pR, zx_K_pF, zx_R_pI, zx_R_pF, zx_I_pR, zx_I_eq, zx_I_ne, zx_I_ek, zx_R_eq, zx_R_ne, zx_R_ek, nI_clamp, zn_in, nI_add, zn_mul, nI_leI, nI_ltI, nI_eq, reduceIte, Nat.reduceLT, Nat.reduceMul, Nat.reducePow, zup_at, zvp_at, zn_z, zn_o, eq_self, or_true, true_or, or_false, false_or, zb_0, zb_1, zb_ik, zn_m, zn_rm, zn_sub, zn_div, not_false_eq_true, not_true_eq_false, forall_const, false_implies, implies_true, and_self, Bool.false_eq_true, Nat.reduceEqDiff, false_and, and_false, Nat.reduceSub, k0, r7, e3, y1, kn, kn0, in0, f1, f2, f3, f4]
    refine cl_Rp_init (crv P k) P (zs_nw τ (3, 0)) _ kn (by rw [zx_n_nw, y1]) h4 h0 ?_
    intro ρ z1 z2 z3 z4 z5
    have c1 : cold τ ρ (crv P k) := cold_trans c0 z2 (Nat.le_refl _)
    have kr8 : zs_K ρ 8 = (113, 2) := by rw [(c1 8 (by omega)).1]; exact y2.2.2.2.2.2.2.2.2.2.2.2.2.2.1
    have kp : zs_K ρ (crv P k) = (3, 0) := z3.1
    have f5 : 23 + 25 * k + 1 + 24 = 23 + 25 * (k + 1) := by omega
    have f6 : 511 + 910 * k + 10 + 900 = 511 + 910 * (k + 1) := by omega
    have rr : ∀ w q, w < 8 ∨ (8 < w ∧ w < crv P k) → zs_R (zs_pR ρ 8 k (some (crv P k))) w q = zs_R τ w q := fun w q hw => by rw [zx_R_ne _ _ _ _ (by omega)]; exact ((c1 w (by omega)).2 q).2
    simp (disch := omega) only [zt_ild, zt_ald, zt_ist, zt_ast, zt_inc, zt_psh, zt_nul, zt_bin, zt_div, zt_if, zt_cmp, zt_ifn, zt_dup, zt_du2, zt_pop, zt_gtI, zt_gtR, zt_ptI, zt_ptZ, zt_ptR, zt_xld, zt_rld, zt_ias, zt_zas, zt_ras, zt_len, zt_irt, zt_zrt, zt_art, zt_vrt, zt_cal, zt_cav, zt_cai, zt_cas, zt_dfl, zt_oin, zt_nwa, zt_nwo, zs_args, zs_rv, zs_fits, zs_c1, Value.category, List.getElem?_cons_zero, List.getElem?_cons_succ, List.set_cons_zero, List.set_cons_succ, List.length_nil, List.length_cons, beq_self_eq_true, Bool.and_self, Bool.and_true, true_and, and_true, Nat.add_zero, Nat.zero_add, Nat.le_refl, Nat.zero_le, Nat.reduceAdd, Nat.reduceLeDiff, Option.toList_some, Option.toList_none, List.nil_append, List.cons_append, zb_0, zb_1, zb_i0, zb_i1, zb_ij, ne_eq, Classical.not_not, zx_n_pI, zx_n_pR, zx_n_pF, zx_n_nw, zx_K_pI, zx_K_pR, zx_K_pF, zx_R_pI, zx_R_pF, zx_I_pR, zx_I_eq, zx_I_ne, zx_I_ek, zx_R_eq, zx_R_ne, zx_R_ek, nI_clamp, zn_in, nI_add, zn_mul, nI_leI, nI_ltI, nI_eq, reduceIte, Nat.reduceLT, Nat.reduceMul, Nat.reducePow, zup_at, zvp_at, zn_z, zn_o, eq_self, or_true, true_or, or_false, false_or, zb_0, zb_1, zb_ik, zn_m, zn_rm, zn_sub, zn_div, not_false_eq_true, not_true_eq_false, forall_const, false_implies, implies_true, and_self, Bool.false_eq_true, Nat.reduceEqDiff, false_and, and_false, Nat.reduceSub, kr8, hk, kp, f5, f6]
    refine hK _ ⟨?_, ?_, ?_, ?_, ?_⟩
    · rw [zx_n_pR, z1, ← vk]
      rcases (show k = 0 ∨ k = 1 by omega) with rfl | rfl <;> simp <;> omega
    · exact csh_of (σ := τ) (fun w hw => (c1 w (by omega)).1) (fun w q hw => ((c1 w (by omega)).2 q).1) (fun w q hw => rr w q (by omega)) y2
    · exact fun l hl => csl1_of (σ := τ) (fun w hw => (c1 w (by omega)).1) (fun w q hw => ((c1 w (by omega)).2 q).1) (fun q => rr _ q (by omega)) (rr 6 l (by omega)) (y3 l hl)
    · exact fun s hs => css1_of (σ := τ) (fun w hw => (c1 w (by omega)).1) (fun w q hw => ((c1 w (by omega)).2 q).1) (fun q => rr _ q (by omega)) (rr 7 s (by omega)) (y4 s hs)
    · intro r hr
      have self : ∀ v, 24 ≤ v → csr1 ρ P v → csr1 (zs_pR ρ 8 k (some (crv P k))) P v := fun v hv hh => by
        obtain ⟨a, b, c⟩ := hh
        exact ⟨crh_of (σ := ρ) (fun _ _ => rfl) (fun _ _ _ => rfl) (fun q => by rw [zx_R_ne _ _ _ _ (by omega)]) (fun q => by rw [zx_R_ne _ _ _ _ (by omega)]) a, fun p hp => crq_of (σ := ρ) (fun _ _ => rfl) (fun _ _ _ _ => rfl) (fun q => by rw [zx_R_ne _ _ _ _ (by omega)]) (by rw [zx_R_ne _ _ _ _ (by omega)]) (b p hp), c⟩
      by_cases gr : r = k
      · subst gr
        exact ⟨by rw [zx_R_eq], self _ v24 ⟨z3, z4, z5⟩⟩
      · have hr0 : r = 0 ∧ k = 1 := by omega
        obtain ⟨rfl, rfl⟩ := hr0
        obtain ⟨b1, b2⟩ := y5 0 (by omega)
        refine ⟨?_, self _ (show 24 ≤ crv P 0 from Nat.le_refl 24) (csr1_of b2 ?_)⟩
        · rw [zx_R_ek _ _ _ _ _ (by omega), ((c1 8 (by omega)).2 0).2]; exact b1
        · intro w hw
          exact c1 w (by unfold crv at hw ⊢; simp at hw ⊢; omega)
  · rintro τ ⟨y1, y2, y3, y4, y5⟩ K
    simp (disch := omega) only [ze_SB_init_128, ze_SB_init_156, zt_ild, zt_ald, zt_ist, zt_ast, zt_inc, zt_psh, zt_nul, zt_bin, zt_div, zt_if, zt_cmp, zt_ifn, zt_dup, zt_du2, zt_pop, zt_gtI, zt_gtR, zt_ptI, zt_ptZ, zt_ptR, zt_xld, zt_rld, zt_ias, zt_zas, zt_ras, zt_len, zt_irt, zt_zrt, zt_art, zt_vrt, zt_cal, zt_cav, zt_cai, zt_cas, zt_dfl, zt_oin, zt_nwa, zt_nwo, zs_args, zs_rv, zs_fits, zs_c1, Value.category, List.getElem?_cons_zero, List.getElem?_cons_succ, List.set_cons_zero, List.set_cons_succ, List.length_nil, List.length_cons, beq_self_eq_true, Bool.and_self, Bool.and_true, true_and, and_true, Nat.add_zero, Nat.zero_add, Nat.le_refl, Nat.zero_le, Nat.reduceAdd, Nat.reduceLeDiff, Option.toList_some, Option.toList_none, List.nil_append, List.cons_append, zb_0, zb_1, zb_i0, zb_i1, zb_ij, ne_eq, Classical.not_not, zx_n_pI, zx_n_pR, zx_n_pF, zx_n_nw, zx_K_pI, zx_K_pR, zx_K_pF, zx_R_pI, zx_R_pF, zx_I_pR, zx_I_eq, zx_I_ne, zx_I_ek, zx_R_eq, zx_R_ne, zx_R_ek, nI_clamp, zn_in, nI_add, zn_mul, nI_leI, nI_ltI, nI_eq, reduceIte, Nat.reduceLT, Nat.reduceMul, Nat.reducePow, zup_at, zvp_at, zn_z, zn_o, eq_self, or_true, true_or, or_false, false_or, zb_0, zb_1, zb_ik, zn_m, zn_rm, zn_sub, zn_div, not_false_eq_true, not_true_eq_false, forall_const, false_implies, implies_true, and_self, Bool.false_eq_true, Nat.reduceEqDiff, false_and, and_false, Nat.reduceSub]
    exact h τ (by rw [y1]; omega) (csb_init h0 h4 y2 y3 y4 y5) y2 y3 y4 (fun r hr => (y5 r hr).2)
theorem cl_SB_init2 (P : Nat) (Q : zs_Q) (h0 : 0 < P) (h4 : P ≤ 4) (x : Int32) (h : ∀ τ, zs_n τ = 40 + 8 * P → csb τ P → csh τ P → (∀ l, l < 3 → csl1 τ l) → (∀ s, s < 2 → css1 τ s) → (∀ r, r < 2 → csr1 τ P (crv P r)) → Q none τ) (τ0 : zs_S) (x1 : zs_n τ0 = 18) (x2 : csh τ0 P) (x3 : ∀ l, l < 3 → csl1 τ0 l) : zl_SB_init_102 Q [some (.ref 0), some (.int x), some (.int (nI 0))] [] τ0 17 449 := by
  have hz := zx_cnt (body := zb_SB_init_102 Q) (fun k => [some (.ref 0), some (.int x), some (.int (nI k))]) (fun k => 17 + 3 * k) (fun k => 449 + 31 * k) (fun k τ => zs_n τ = 18 + 3 * k ∧ csh τ P ∧ (∀ l, l < 3 → csl1 τ l) ∧ ∀ s, s < k → css1 τ s) 2 ?_ ?_ τ0 ⟨x1, x2, x3, fun p hp => absurd hp (Nat.not_lt_zero p)⟩
  · exact hz
  · rintro k hk τ ⟨y1, y2, y3, y4⟩ K hK
    have e3 : ¬ 2 ≤ k := by omega
    have r6 : zs_R τ 0 6 = some 7 := y2.2.2.2.2.2.2.2.1
    have k0 : zs_K τ 0 = (7, 0) := y2.1
    have f1 : 17 + 3 * k + 1 ≤ 100 := by omega
    have f2 : 449 + 31 * k + 5 ≤ 3000 := by omega
    have f3 : 17 + 3 * k + 1 + 2 ≤ 100 := by omega
    have f4 : 449 + 31 * k + 5 + 26 ≤ 3000 := by omega
    have kn : zs_K (zs_nw τ (4, 0)) (18 + 3 * k) = (4, 0) := by rw [zx_K_nw, if_pos y1.symm]
    have c0 : cold τ (zs_nw τ (4, 0)) (18 + 3 * k) := cold_nw _ (cold_rfl τ _) (by omega)
    simp (disch := omega) only [ze_SB_init_102, ze_SB_init_107, zt_ild, zt_ald, zt_ist, zt_ast, zt_inc, zt_psh, zt_nul, zt_bin, zt_div, zt_if, zt_cmp, zt_ifn, zt_dup, zt_du2, zt_pop, zt_gtI, zt_gtR, zt_ptI, zt_ptZ, zt_ptR, zt_xld, zt_rld, zt_ias, zt_zas, zt_ras, zt_len, zt_irt, zt_zrt, zt_art, zt_vrt, zt_cal, zt_cav, zt_cai, zt_cas, zt_dfl, zt_oin, zt_nwa, zt_nwo, zs_args, zs_rv, zs_fits, zs_c1, Value.category, List.getElem?_cons_zero, List.getElem?_cons_succ, List.set_cons_zero, List.set_cons_succ, List.length_nil, List.length_cons, beq_self_eq_true, Bool.and_self, Bool.and_true, true_and, and_true, Nat.add_zero, Nat.zero_add, Nat.le_refl, Nat.zero_le, Nat.reduceAdd, Nat.reduceLeDiff, Option.toList_some, Option.toList_none, List.nil_append, List.cons_append, zb_0, zb_1, zb_i0, zb_i1, zb_ij, ne_eq, Classical.not_not, zx_n_pI, zx_n_pR, zx_n_pF, zx_n_nw, zx_K_pI, zx_K_pR, zx_K_pF, zx_R_pI, zx_R_pF, zx_I_pR, zx_I_eq, zx_I_ne, zx_I_ek, zx_R_eq, zx_R_ne, zx_R_ek, nI_clamp, zn_in, nI_add, zn_mul, nI_leI, nI_ltI, nI_eq, reduceIte, Nat.reduceLT, Nat.reduceMul, Nat.reducePow, zup_at, zvp_at, zn_z, zn_o, eq_self, or_true, true_or, or_false, false_or, zb_0, zb_1, zb_ik, zn_m, zn_rm, zn_sub, zn_div, not_false_eq_true, not_true_eq_false, forall_const, false_implies, implies_true, and_self, Bool.false_eq_true, Nat.reduceEqDiff, false_and, and_false, Nat.reduceSub, k0, r6, e3, y1, kn, f1, f2, f3, f4]
    refine cl_Sq_init (18 + 3 * k) (zs_nw τ (4, 0)) _ kn (by rw [zx_n_nw, y1]) ?_
    intro ρ z1 z2 z3 z4 z5 z6 z7
    have c1 : cold τ ρ (18 + 3 * k) := cold_trans c0 z2 (Nat.le_refl _)
    have kr7 : zs_K ρ 7 = (114, 2) := by rw [(c1 7 (by omega)).1]; exact y2.2.2.2.2.2.2.2.2.2.2.2.2.1
    have kp : zs_K ρ (18 + 3 * k) = (4, 0) := z3.1
    have f5 : 17 + 3 * k + 1 + 2 = 17 + 3 * (k + 1) := by omega
    have f6 : 449 + 31 * k + 5 + 26 = 449 + 31 * (k + 1) := by omega
    have rr : ∀ w q, w < 7 ∨ (7 < w ∧ w < 18 + 3 * k) → zs_R (zs_pR ρ 7 k (some (18 + 3 * k))) w q = zs_R τ w q := fun w q hw => by rw [zx_R_ne _ _ _ _ (by omega)]; exact ((c1 w (by omega)).2 q).2
    simp (disch := omega) only [zt_ild, zt_ald, zt_ist, zt_ast, zt_inc, zt_psh, zt_nul, zt_bin, zt_div, zt_if, zt_cmp, zt_ifn, zt_dup, zt_du2, zt_pop, zt_gtI, zt_gtR, zt_ptI, zt_ptZ, zt_ptR, zt_xld, zt_rld, zt_ias, zt_zas, zt_ras, zt_len, zt_irt, zt_zrt, zt_art, zt_vrt, zt_cal, zt_cav, zt_cai, zt_cas, zt_dfl, zt_oin, zt_nwa, zt_nwo, zs_args, zs_rv, zs_fits, zs_c1, Value.category, List.getElem?_cons_zero, List.getElem?_cons_succ, List.set_cons_zero, List.set_cons_succ, List.length_nil, List.length_cons, beq_self_eq_true, Bool.and_self, Bool.and_true, true_and, and_true, Nat.add_zero, Nat.zero_add, Nat.le_refl, Nat.zero_le, Nat.reduceAdd, Nat.reduceLeDiff, Option.toList_some, Option.toList_none, List.nil_append, List.cons_append, zb_0, zb_1, zb_i0, zb_i1, zb_ij, ne_eq, Classical.not_not, zx_n_pI, zx_n_pR, zx_n_pF, zx_n_nw, zx_K_pI, zx_K_pR, zx_K_pF, zx_R_pI, zx_R_pF, zx_I_pR, zx_I_eq, zx_I_ne, zx_I_ek, zx_R_eq, zx_R_ne, zx_R_ek, nI_clamp, zn_in, nI_add, zn_mul, nI_leI, nI_ltI, nI_eq, reduceIte, Nat.reduceLT, Nat.reduceMul, Nat.reducePow, zup_at, zvp_at, zn_z, zn_o, eq_self, or_true, true_or, or_false, false_or, zb_0, zb_1, zb_ik, zn_m, zn_rm, zn_sub, zn_div, not_false_eq_true, not_true_eq_false, forall_const, false_implies, implies_true, and_self, Bool.false_eq_true, Nat.reduceEqDiff, false_and, and_false, Nat.reduceSub, kr7, hk, kp, f5, f6]
    refine hK _ ⟨by rw [zx_n_pR, z1]; omega, ?_, ?_, ?_⟩
    · exact csh_of (σ := τ) (fun w hw => (c1 w (by omega)).1) (fun w q hw => ((c1 w (by omega)).2 q).1) (fun w q hw => rr w q (by omega)) y2
    · exact fun l hl => csl1_of (σ := τ) (fun w hw => (c1 w (by omega)).1) (fun w q hw => ((c1 w (by omega)).2 q).1) (fun q => rr _ q (by omega)) (rr 6 l (by omega)) (y3 l hl)
    · intro s hs
      by_cases gs : s = k
      · subst gs
        obtain ⟨a1, a2, a3, a4, a5⟩ := z3
        exact ⟨by rw [zx_R_eq], ⟨a1, by rw [zx_R_ne _ _ _ _ (by omega)]; exact a2, by rw [zx_R_ne _ _ _ _ (by omega)]; exact a3, a4, a5⟩, z4, z5, z6⟩
      · exact css1_of (σ := τ) (fun w hw => (c1 w (by omega)).1) (fun w q hw => ((c1 w (by omega)).2 q).1) (fun q => rr _ q (by omega)) (by rw [zx_R_ek _ _ _ _ _ gs]; exact ((c1 7 (by omega)).2 s).2) (y4 s (by omega))
  · rintro τ ⟨y1, y2, y3, y4⟩ K
    simp (disch := omega) only [ze_SB_init_102, ze_SB_init_126, zt_ild, zt_ald, zt_ist, zt_ast, zt_inc, zt_psh, zt_nul, zt_bin, zt_div, zt_if, zt_cmp, zt_ifn, zt_dup, zt_du2, zt_pop, zt_gtI, zt_gtR, zt_ptI, zt_ptZ, zt_ptR, zt_xld, zt_rld, zt_ias, zt_zas, zt_ras, zt_len, zt_irt, zt_zrt, zt_art, zt_vrt, zt_cal, zt_cav, zt_cai, zt_cas, zt_dfl, zt_oin, zt_nwa, zt_nwo, zs_args, zs_rv, zs_fits, zs_c1, Value.category, List.getElem?_cons_zero, List.getElem?_cons_succ, List.set_cons_zero, List.set_cons_succ, List.length_nil, List.length_cons, beq_self_eq_true, Bool.and_self, Bool.and_true, true_and, and_true, Nat.add_zero, Nat.zero_add, Nat.le_refl, Nat.zero_le, Nat.reduceAdd, Nat.reduceLeDiff, Option.toList_some, Option.toList_none, List.nil_append, List.cons_append, zb_0, zb_1, zb_i0, zb_i1, zb_ij, ne_eq, Classical.not_not, zx_n_pI, zx_n_pR, zx_n_pF, zx_n_nw, zx_K_pI, zx_K_pR, zx_K_pF, zx_R_pI, zx_R_pF, zx_I_pR, zx_I_eq, zx_I_ne, zx_I_ek, zx_R_eq, zx_R_ne, zx_R_ek, nI_clamp, zn_in, nI_add, zn_mul, nI_leI, nI_ltI, nI_eq, reduceIte, Nat.reduceLT, Nat.reduceMul, Nat.reducePow, zup_at, zvp_at, zn_z, zn_o, eq_self, or_true, true_or, or_false, false_or, zb_0, zb_1, zb_ik, zn_m, zn_rm, zn_sub, zn_div, not_false_eq_true, not_true_eq_false, forall_const, false_implies, implies_true, and_self, Bool.false_eq_true, Nat.reduceEqDiff, false_and, and_false, Nat.reduceSub]
    exact cl_SB_init3 P Q h0 h4 x h τ y1 y2 y3 y4
theorem cl_SB_init1 (P : Nat) (Q : zs_Q) (h0 : 0 < P) (h4 : P ≤ 4) (x : Int32) (h : ∀ τ, zs_n τ = 40 + 8 * P → csb τ P → csh τ P → (∀ l, l < 3 → csl1 τ l) → (∀ s, s < 2 → css1 τ s) → (∀ r, r < 2 → csr1 τ P (crv P r)) → Q none τ) (τ0 : zs_S) (x1 : zs_n τ0 = 9) (x2 : csh τ0 P) : zl_SB_init_76 Q [some (.ref 0), some (.int x), some (.int (nI 0))] [] τ0 8 317 := by
  have hz := zx_cnt (body := zb_SB_init_76 Q) (fun k => [some (.ref 0), some (.int x), some (.int (nI k))]) (fun k => 8 + 3 * k) (fun k => 317 + 44 * k) (fun k τ => zs_n τ = 9 + 3 * k ∧ csh τ P ∧ ∀ l, l < k → csl1 τ l) 3 ?_ ?_ τ0 ⟨x1, x2, fun p hp => absurd hp (Nat.not_lt_zero p)⟩
  · exact hz
  · rintro k hk τ ⟨y1, y2, y3⟩ K hK
    have e3 : ¬ 3 ≤ k := by omega
    have r5 : zs_R τ 0 5 = some 6 := y2.2.2.2.2.2.2.1
    have k0 : zs_K τ 0 = (7, 0) := y2.1
    have f1 : 8 + 3 * k + 1 ≤ 100 := by omega
    have f2 : 317 + 44 * k + 2 ≤ 3000 := by omega
    have f3 : 8 + 3 * k + 1 + 2 ≤ 100 := by omega
    have f4 : 317 + 44 * k + 2 + 42 ≤ 3000 := by omega
    have kn : zs_K (zs_nw τ (0, 0)) (9 + 3 * k) = (0, 0) := by rw [zx_K_nw, if_pos y1.symm]
    have c0 : cold τ (zs_nw τ (0, 0)) (9 + 3 * k) := cold_nw _ (cold_rfl τ _) (by omega)
    simp (disch := omega) only [ze_SB_init_76, ze_SB_init_81, zt_ild, zt_ald, zt_ist, zt_ast, zt_inc, zt_psh, zt_nul, zt_bin, zt_div, zt_if, zt_cmp, zt_ifn, zt_dup, zt_du2, zt_pop, zt_gtI, zt_gtR, zt_ptI, zt_ptZ, zt_ptR, zt_xld, zt_rld, zt_ias, zt_zas, zt_ras, zt_len, zt_irt, zt_zrt, zt_art, zt_vrt, zt_cal, zt_cav, zt_cai, zt_cas, zt_dfl, zt_oin, zt_nwa, zt_nwo, zs_args, zs_rv, zs_fits, zs_c1, Value.category, List.getElem?_cons_zero, List.getElem?_cons_succ, List.set_cons_zero, List.set_cons_succ, List.length_nil, List.length_cons, beq_self_eq_true, Bool.and_self, Bool.and_true, true_and, and_true, Nat.add_zero, Nat.zero_add, Nat.le_refl, Nat.zero_le, Nat.reduceAdd, Nat.reduceLeDiff, Option.toList_some, Option.toList_none, List.nil_append, List.cons_append, zb_0, zb_1, zb_i0, zb_i1, zb_ij, ne_eq, Classical.not_not, zx_n_pI, zx_n_pR, zx_n_pF, zx_n_nw, zx_K_pI, zx_K_pR, zx_K_pF, zx_R_pI, zx_R_pF, zx_I_pR, zx_I_eq, zx_I_ne, zx_I_ek, zx_R_eq, zx_R_ne, zx_R_ek, nI_clamp, zn_in, nI_add, zn_mul, nI_leI, nI_ltI, nI_eq, reduceIte, Nat.reduceLT, Nat.reduceMul, Nat.reducePow, zup_at, zvp_at, zn_z, zn_o, eq_self, or_true, true_or, or_false, false_or, zb_0, zb_1, zb_ik, zn_m, zn_rm, zn_sub, zn_div, not_false_eq_true, not_true_eq_false, forall_const, false_implies, implies_true, and_self, Bool.false_eq_true, Nat.reduceEqDiff, false_and, and_false, Nat.reduceSub, k0, r5, e3, y1, kn, f1, f2, f3, f4]
    refine cl_Ln_init (9 + 3 * k) (zs_nw τ (0, 0)) _ kn (by rw [zx_n_nw, y1]) ?_
    intro ρ z1 z2 z3 z4 z5
    have c1 : cold τ ρ (9 + 3 * k) := cold_trans c0 z2 (Nat.le_refl _)
    have kr6 : zs_K ρ 6 = (110, 3) := by rw [(c1 6 (by omega)).1]; exact y2.2.2.2.2.2.2.2.2.2.2.2.1
    have kp : zs_K ρ (9 + 3 * k) = (0, 0) := z3.1
    have f5 : 8 + 3 * k + 1 + 2 = 8 + 3 * (k + 1) := by omega
    have f6 : 317 + 44 * k + 2 + 42 = 317 + 44 * (k + 1) := by omega
    have rr : ∀ w q, w < 6 ∨ (6 < w ∧ w < 9 + 3 * k) → zs_R (zs_pR ρ 6 k (some (9 + 3 * k))) w q = zs_R τ w q := fun w q hw => by rw [zx_R_ne _ _ _ _ (by omega)]; exact ((c1 w (by omega)).2 q).2
    simp (disch := omega) only [zt_ild, zt_ald, zt_ist, zt_ast, zt_inc, zt_psh, zt_nul, zt_bin, zt_div, zt_if, zt_cmp, zt_ifn, zt_dup, zt_du2, zt_pop, zt_gtI, zt_gtR, zt_ptI, zt_ptZ, zt_ptR, zt_xld, zt_rld, zt_ias, zt_zas, zt_ras, zt_len, zt_irt, zt_zrt, zt_art, zt_vrt, zt_cal, zt_cav, zt_cai, zt_cas, zt_dfl, zt_oin, zt_nwa, zt_nwo, zs_args, zs_rv, zs_fits, zs_c1, Value.category, List.getElem?_cons_zero, List.getElem?_cons_succ, List.set_cons_zero, List.set_cons_succ, List.length_nil, List.length_cons, beq_self_eq_true, Bool.and_self, Bool.and_true, true_and, and_true, Nat.add_zero, Nat.zero_add, Nat.le_refl, Nat.zero_le, Nat.reduceAdd, Nat.reduceLeDiff, Option.toList_some, Option.toList_none, List.nil_append, List.cons_append, zb_0, zb_1, zb_i0, zb_i1, zb_ij, ne_eq, Classical.not_not, zx_n_pI, zx_n_pR, zx_n_pF, zx_n_nw, zx_K_pI, zx_K_pR, zx_K_pF, zx_R_pI, zx_R_pF, zx_I_pR, zx_I_eq, zx_I_ne, zx_I_ek, zx_R_eq, zx_R_ne, zx_R_ek, nI_clamp, zn_in, nI_add, zn_mul, nI_leI, nI_ltI, nI_eq, reduceIte, Nat.reduceLT, Nat.reduceMul, Nat.reducePow, zup_at, zvp_at, zn_z, zn_o, eq_self, or_true, true_or, or_false, false_or, zb_0, zb_1, zb_ik, zn_m, zn_rm, zn_sub, zn_div, not_false_eq_true, not_true_eq_false, forall_const, false_implies, implies_true, and_self, Bool.false_eq_true, Nat.reduceEqDiff, false_and, and_false, Nat.reduceSub, kr6, hk, kp, f5, f6]
    refine hK _ ⟨by rw [zx_n_pR, z1]; omega, ?_, ?_⟩
    · exact csh_of (σ := τ) (fun w hw => (c1 w (by omega)).1) (fun w q hw => ((c1 w (by omega)).2 q).1) (fun w q hw => rr w q (by omega)) y2
    · intro l hl
      by_cases gl : l = k
      · subst gl
        obtain ⟨a1, a2, a3, a4, a5⟩ := z3
        exact ⟨by rw [zx_R_eq], ⟨a1, by rw [zx_R_ne _ _ _ _ (by omega)]; exact a2, by rw [zx_R_ne _ _ _ _ (by omega)]; exact a3, a4, a5⟩, fun q => by rw [show 10 + 3 * l = 9 + 3 * l + 1 by omega]; exact z4 q, fun q => by rw [show 11 + 3 * l = 9 + 3 * l + 2 by omega]; exact z5 q⟩
      · exact csl1_of (σ := τ) (fun w hw => (c1 w (by omega)).1) (fun w q hw => ((c1 w (by omega)).2 q).1) (fun q => rr _ q (by omega)) (by rw [zx_R_ek _ _ _ _ _ gl]; exact ((c1 6 (by omega)).2 l).2) (y3 l (by omega))
  · rintro τ ⟨y1, y2, y3⟩ K
    simp (disch := omega) only [ze_SB_init_76, ze_SB_init_100, zt_ild, zt_ald, zt_ist, zt_ast, zt_inc, zt_psh, zt_nul, zt_bin, zt_div, zt_if, zt_cmp, zt_ifn, zt_dup, zt_du2, zt_pop, zt_gtI, zt_gtR, zt_ptI, zt_ptZ, zt_ptR, zt_xld, zt_rld, zt_ias, zt_zas, zt_ras, zt_len, zt_irt, zt_zrt, zt_art, zt_vrt, zt_cal, zt_cav, zt_cai, zt_cas, zt_dfl, zt_oin, zt_nwa, zt_nwo, zs_args, zs_rv, zs_fits, zs_c1, Value.category, List.getElem?_cons_zero, List.getElem?_cons_succ, List.set_cons_zero, List.set_cons_succ, List.length_nil, List.length_cons, beq_self_eq_true, Bool.and_self, Bool.and_true, true_and, and_true, Nat.add_zero, Nat.zero_add, Nat.le_refl, Nat.zero_le, Nat.reduceAdd, Nat.reduceLeDiff, Option.toList_some, Option.toList_none, List.nil_append, List.cons_append, zb_0, zb_1, zb_i0, zb_i1, zb_ij, ne_eq, Classical.not_not, zx_n_pI, zx_n_pR, zx_n_pF, zx_n_nw, zx_K_pI, zx_K_pR, zx_K_pF, zx_R_pI, zx_R_pF, zx_I_pR, zx_I_eq, zx_I_ne, zx_I_ek, zx_R_eq, zx_R_ne, zx_R_ek, nI_clamp, zn_in, nI_add, zn_mul, nI_leI, nI_ltI, nI_eq, reduceIte, Nat.reduceLT, Nat.reduceMul, Nat.reducePow, zup_at, zvp_at, zn_z, zn_o, eq_self, or_true, true_or, or_false, false_or, zb_0, zb_1, zb_ik, zn_m, zn_rm, zn_sub, zn_div, not_false_eq_true, not_true_eq_false, forall_const, false_implies, implies_true, and_self, Bool.false_eq_true, Nat.reduceEqDiff, false_and, and_false, Nat.reduceSub]
    exact cl_SB_init2 P Q h0 h4 x h τ y1 y2 y3
