/-! The class: a sequencer is taken up. -/
def cgr (d g : Nat → Nat) : Nat → Nat
  | 0 => 0
  | n + 1 => if d n = 0 then (if cgr d g n < g n then g n else cgr d g n) else cgr d g n
theorem cgr_lt (d g : Nat → Nat) (h : ∀ l, l < 3 → g l < 1000000) : ∀ n, n ≤ 3 → cgr d g n < 1000000
  | 0, _ => (by unfold cgr; omega)
  | n + 1, hn => by
    have := cgr_lt d g h n (by omega)
    have := h n (by omega)
    unfold cgr
    split
    · split <;> assumption
    · assumption
def cem (d g : Nat → Nat) : Nat := if cgr d g 3 = 0 ∨ cgr d g 3 % 2 = 1 then 1 else 0
theorem cl_isEmpty (P s e : Nat) (d g : Nat → Nat) (σ : zs_S) (Q : zs_Q) (hs : csb σ P) (hd : cdn σ d) (h2 : s < 2) (he : e < 20) (hg : ∀ l, l < 3 → zs_I σ (11 + 3 * l) (2 * e + s) = nI (g l) ∧ g l < 1000000) (h : Q (some (.int (nI (cem d g)))) σ) : zw_SB_isEmptyOnLogNodes [.ref 0, .int (nI s), .int (nI e)] σ Q := by
  obtain ⟨k0, s2, s3, s4, k4, k5, k6, k8, s9, s10, s11, k7, k13, spo, s15, s16, s17, hP0, hP⟩ := hs
  simp (disch := omega) only [zw_SB_isEmptyOnLogNodes, ze_SB_isEmptyOnLogNodes_0, zt_ild, zt_ald, zt_ist, zt_ast, zt_inc, zt_psh, zt_nul, zt_bin, zt_div, zt_if, zt_cmp, zt_ifn, zt_dup, zt_du2, zt_pop, zt_gtI, zt_gtR, zt_ptI, zt_ptZ, zt_ptR, zt_xld, zt_rld, zt_ias, zt_zas, zt_ras, zt_len, zt_irt, zt_zrt, zt_art, zt_vrt, zt_cal, zt_cav, zt_cai, zt_cas, zt_dfl, zt_oin, zt_nwa, zt_nwo, zs_args, zs_rv, zs_fits, zs_c1, Value.category, List.getElem?_cons_zero, List.getElem?_cons_succ, List.set_cons_zero, List.set_cons_succ, List.length_nil, List.length_cons, beq_self_eq_true, Bool.and_self, Bool.and_true, true_and, and_true, Nat.add_zero, Nat.zero_add, Nat.le_refl, Nat.zero_le, Nat.reduceAdd, Nat.reduceLeDiff, Option.toList_some, Option.toList_none, List.nil_append, List.cons_append, zb_0, zb_1, zb_i0, zb_i1, zb_ij, ne_eq, Classical.not_not, zx_n_pI, zx_n_pR, zx_n_pF, zx_n_nw, zx_K_pI, zx_K_pR, zx_K_pF, zx_R_pI, zx_R_pF, zx_I_pR, zx_I_eq, zx_I_ne, zx_I_ek, zx_R_eq, zx_R_ne, zx_R_ek, nI_clamp, zn_in, nI_add, zn_mul, nI_leI, nI_ltI, nI_eq, reduceIte, Nat.reduceLT, Nat.reduceMul, Nat.reducePow, zup_at, zvp_at, zn_z, zn_o, eq_self, or_true, true_or, or_false, false_or, zb_0, zb_1, zb_ik, zn_m, zn_rm, zn_sub, zn_div, not_false_eq_true, not_true_eq_false, forall_const, false_implies, implies_true, and_self, Bool.false_eq_true, Nat.reduceEqDiff, false_and, and_false, Nat.reduceSub]
  refine zx_for (body := zb_SB_isEmptyOnLogNodes_5 Q) (c := 0) (s := 0) (fun l => [some (.ref 0), some (.int (nI s)), some (.int (nI e)), some (.int (nI (cgr d g l))), some (.int (nI l))]) (fun _ => σ) 3 0 ?_ ?_ (Nat.zero_le _)
  · intro l _ hl K hK
    have e1 : ¬ 3 ≤ l := by omega
    have e7 : l < 7 := by omega
    obtain ⟨d1, d2⟩ := hd l e7
    obtain ⟨l0, l1, l2, l3, l4, l5⟩ := s15 l hl
    have l3' : zs_R σ (9 + 3 * l) 1 = some (11 + 3 * l) := by rw [l3]; congr 1; omega
    have l5' : zs_K σ (11 + 3 * l) = (100, 40) := by rw [← l5]; congr 1; omega
    obtain ⟨g1, g2⟩ := hg l hl
    have e40 : 2 * e + s < 40 := by omega
    have b0 := cgr_lt d g (fun l hl => (hg l hl).2) l (by omega)
    have b1 := cl_place s e
    unfold cgr at hK
    by_cases gd : d l = 0
    · rw [if_pos gd] at hK
      have mx : (if nI (cgr d g l) < nI (g l) then nI (g l) else nI (cgr d g l)) = nI (if cgr d g l < g l then g l else cgr d g l) := by
        by_cases z : cgr d g l < g l
        · rw [if_pos z, if_pos ((nI_ltI (by omega) (by omega)).mpr z)]
        · rw [if_neg z, if_neg (fun y => z ((nI_ltI (by omega) (by omega)).mp y))]
      simp (disch := omega) only [ze_SB_isEmptyOnLogNodes_5, ze_SB_isEmptyOnLogNodes_11, ze_SB_isEmptyOnLogNodes_21, ze_SB_isEmptyOnLogNodes_42, zt_jmm, zt_ild, zt_ald, zt_ist, zt_ast, zt_inc, zt_psh, zt_nul, zt_bin, zt_div, zt_if, zt_cmp, zt_ifn, zt_dup, zt_du2, zt_pop, zt_gtI, zt_gtR, zt_ptI, zt_ptZ, zt_ptR, zt_xld, zt_rld, zt_ias, zt_zas, zt_ras, zt_len, zt_irt, zt_zrt, zt_art, zt_vrt, zt_cal, zt_cav, zt_cai, zt_cas, zt_dfl, zt_oin, zt_nwa, zt_nwo, zs_args, zs_rv, zs_fits, zs_c1, Value.category, List.getElem?_cons_zero, List.getElem?_cons_succ, List.set_cons_zero, List.set_cons_succ, List.length_nil, List.length_cons, beq_self_eq_true, Bool.and_self, Bool.and_true, true_and, and_true, Nat.add_zero, Nat.zero_add, Nat.le_refl, Nat.zero_le, Nat.reduceAdd, Nat.reduceLeDiff, Option.toList_some, Option.toList_none, List.nil_append, List.cons_append, zb_0, zb_1, zb_i0, zb_i1, zb_ij, ne_eq, Classical.not_not, zx_n_pI, zx_n_pR, zx_n_pF, zx_n_nw, zx_K_pI, zx_K_pR, zx_K_pF, zx_R_pI, zx_R_pF, zx_I_pR, zx_I_eq, zx_I_ne, zx_I_ek, zx_R_eq, zx_R_ne, zx_R_ek, nI_clamp, zn_in, nI_add, zn_mul, nI_leI, nI_ltI, nI_eq, reduceIte, Nat.reduceLT, Nat.reduceMul, Nat.reducePow, zup_at, zvp_at, zn_z, zn_o, eq_self, or_true, true_or, or_false, false_or, zb_0, zb_1, zb_ik, zn_m, zn_rm, zn_sub, zn_div, not_false_eq_true, not_true_eq_false, forall_const, false_implies, implies_true, and_self, Bool.false_eq_true, Nat.reduceEqDiff, false_and, and_false, Nat.reduceSub, k0, k5, s3, s9, s11, e1, e7, d1, gd, l0, l1, l3', l5', hl, b1, h2, he, e40, g1]
      rw [← mx] at hK
      simp (disch := omega) only [nI_ltI] at hK
      exact hK
    · rw [if_neg gd] at hK
      have gd' : d l = 1 := by omega
      simp (disch := omega) only [ze_SB_isEmptyOnLogNodes_5, ze_SB_isEmptyOnLogNodes_11, ze_SB_isEmptyOnLogNodes_42, zt_ild, zt_ald, zt_ist, zt_ast, zt_inc, zt_psh, zt_nul, zt_bin, zt_div, zt_if, zt_cmp, zt_ifn, zt_dup, zt_du2, zt_pop, zt_gtI, zt_gtR, zt_ptI, zt_ptZ, zt_ptR, zt_xld, zt_rld, zt_ias, zt_zas, zt_ras, zt_len, zt_irt, zt_zrt, zt_art, zt_vrt, zt_cal, zt_cav, zt_cai, zt_cas, zt_dfl, zt_oin, zt_nwa, zt_nwo, zs_args, zs_rv, zs_fits, zs_c1, Value.category, List.getElem?_cons_zero, List.getElem?_cons_succ, List.set_cons_zero, List.set_cons_succ, List.length_nil, List.length_cons, beq_self_eq_true, Bool.and_self, Bool.and_true, true_and, and_true, Nat.add_zero, Nat.zero_add, Nat.le_refl, Nat.zero_le, Nat.reduceAdd, Nat.reduceLeDiff, Option.toList_some, Option.toList_none, List.nil_append, List.cons_append, zb_0, zb_1, zb_i0, zb_i1, zb_ij, ne_eq, Classical.not_not, zx_n_pI, zx_n_pR, zx_n_pF, zx_n_nw, zx_K_pI, zx_K_pR, zx_K_pF, zx_R_pI, zx_R_pF, zx_I_pR, zx_I_eq, zx_I_ne, zx_I_ek, zx_R_eq, zx_R_ne, zx_R_ek, nI_clamp, zn_in, nI_add, zn_mul, nI_leI, nI_ltI, nI_eq, reduceIte, Nat.reduceLT, Nat.reduceMul, Nat.reducePow, zup_at, zvp_at, zn_z, zn_o, eq_self, or_true, true_or, or_false, false_or, zb_0, zb_1, zb_ik, zn_m, zn_rm, zn_sub, zn_div, not_false_eq_true, not_true_eq_false, forall_const, false_implies, implies_true, and_self, Bool.false_eq_true, Nat.reduceEqDiff, false_and, and_false, Nat.reduceSub, k0, s3, s9, e1, e7, d1, gd']
      exact hK
  · intro K
    have b0 := cgr_lt d g (fun l hl => (hg l hl).2) 3 (by omega)
    unfold cem at h
    by_cases z : cgr d g 3 = 0
    · rw [if_pos (Or.inl z)] at h
      simp (disch := omega) only [ze_SB_isEmptyOnLogNodes_5, ze_SB_isEmptyOnLogNodes_48, ze_SB_isEmptyOnLogNodes_59, ze_SB_isEmptyOnLogNodes_64, zt_ild, zt_ald, zt_ist, zt_ast, zt_inc, zt_psh, zt_nul, zt_bin, zt_div, zt_if, zt_cmp, zt_ifn, zt_dup, zt_du2, zt_pop, zt_gtI, zt_gtR, zt_ptI, zt_ptZ, zt_ptR, zt_xld, zt_rld, zt_ias, zt_zas, zt_ras, zt_len, zt_irt, zt_zrt, zt_art, zt_vrt, zt_cal, zt_cav, zt_cai, zt_cas, zt_dfl, zt_oin, zt_nwa, zt_nwo, zs_args, zs_rv, zs_fits, zs_c1, Value.category, List.getElem?_cons_zero, List.getElem?_cons_succ, List.set_cons_zero, List.set_cons_succ, List.length_nil, List.length_cons, beq_self_eq_true, Bool.and_self, Bool.and_true, true_and, and_true, Nat.add_zero, Nat.zero_add, Nat.le_refl, Nat.zero_le, Nat.reduceAdd, Nat.reduceLeDiff, Option.toList_some, Option.toList_none, List.nil_append, List.cons_append, zb_0, zb_1, zb_i0, zb_i1, zb_ij, ne_eq, Classical.not_not, zx_n_pI, zx_n_pR, zx_n_pF, zx_n_nw, zx_K_pI, zx_K_pR, zx_K_pF, zx_R_pI, zx_R_pF, zx_I_pR, zx_I_eq, zx_I_ne, zx_I_ek, zx_R_eq, zx_R_ne, zx_R_ek, nI_clamp, zn_in, nI_add, zn_mul, nI_leI, nI_ltI, nI_eq, reduceIte, Nat.reduceLT, Nat.reduceMul, Nat.reducePow, zup_at, zvp_at, zn_z, zn_o, eq_self, or_true, true_or, or_false, false_or, zb_0, zb_1, zb_ik, zn_m, zn_rm, zn_sub, zn_div, not_false_eq_true, not_true_eq_false, forall_const, false_implies, implies_true, and_self, Bool.false_eq_true, Nat.reduceEqDiff, false_and, and_false, Nat.reduceSub, z]
      exact h
    · by_cases z2 : cgr d g 3 % 2 = 1
      · rw [if_pos (Or.inr z2)] at h
        simp (disch := omega) only [ze_SB_isEmptyOnLogNodes_5, ze_SB_isEmptyOnLogNodes_48, ze_SB_isEmptyOnLogNodes_52, ze_SB_isEmptyOnLogNodes_59, ze_SB_isEmptyOnLogNodes_64, zt_ild, zt_ald, zt_ist, zt_ast, zt_inc, zt_psh, zt_nul, zt_bin, zt_div, zt_if, zt_cmp, zt_ifn, zt_dup, zt_du2, zt_pop, zt_gtI, zt_gtR, zt_ptI, zt_ptZ, zt_ptR, zt_xld, zt_rld, zt_ias, zt_zas, zt_ras, zt_len, zt_irt, zt_zrt, zt_art, zt_vrt, zt_cal, zt_cav, zt_cai, zt_cas, zt_dfl, zt_oin, zt_nwa, zt_nwo, zs_args, zs_rv, zs_fits, zs_c1, Value.category, List.getElem?_cons_zero, List.getElem?_cons_succ, List.set_cons_zero, List.set_cons_succ, List.length_nil, List.length_cons, beq_self_eq_true, Bool.and_self, Bool.and_true, true_and, and_true, Nat.add_zero, Nat.zero_add, Nat.le_refl, Nat.zero_le, Nat.reduceAdd, Nat.reduceLeDiff, Option.toList_some, Option.toList_none, List.nil_append, List.cons_append, zb_0, zb_1, zb_i0, zb_i1, zb_ij, ne_eq, Classical.not_not, zx_n_pI, zx_n_pR, zx_n_pF, zx_n_nw, zx_K_pI, zx_K_pR, zx_K_pF, zx_R_pI, zx_R_pF, zx_I_pR, zx_I_eq, zx_I_ne, zx_I_ek, zx_R_eq, zx_R_ne, zx_R_ek, nI_clamp, zn_in, nI_add, zn_mul, nI_leI, nI_ltI, nI_eq, reduceIte, Nat.reduceLT, Nat.reduceMul, Nat.reducePow, zup_at, zvp_at, zn_z, zn_o, eq_self, or_true, true_or, or_false, false_or, zb_0, zb_1, zb_ik, zn_m, zn_rm, zn_sub, zn_div, not_false_eq_true, not_true_eq_false, forall_const, false_implies, implies_true, and_self, Bool.false_eq_true, Nat.reduceEqDiff, false_and, and_false, Nat.reduceSub, z, z2]
        exact h
      · rw [if_neg (fun y => y.elim z z2)] at h
        simp (disch := omega) only [ze_SB_isEmptyOnLogNodes_5, ze_SB_isEmptyOnLogNodes_48, ze_SB_isEmptyOnLogNodes_52, ze_SB_isEmptyOnLogNodes_63, ze_SB_isEmptyOnLogNodes_64, zt_ild, zt_ald, zt_ist, zt_ast, zt_inc, zt_psh, zt_nul, zt_bin, zt_div, zt_if, zt_cmp, zt_ifn, zt_dup, zt_du2, zt_pop, zt_gtI, zt_gtR, zt_ptI, zt_ptZ, zt_ptR, zt_xld, zt_rld, zt_ias, zt_zas, zt_ras, zt_len, zt_irt, zt_zrt, zt_art, zt_vrt, zt_cal, zt_cav, zt_cai, zt_cas, zt_dfl, zt_oin, zt_nwa, zt_nwo, zs_args, zs_rv, zs_fits, zs_c1, Value.category, List.getElem?_cons_zero, List.getElem?_cons_succ, List.set_cons_zero, List.set_cons_succ, List.length_nil, List.length_cons, beq_self_eq_true, Bool.and_self, Bool.and_true, true_and, and_true, Nat.add_zero, Nat.zero_add, Nat.le_refl, Nat.zero_le, Nat.reduceAdd, Nat.reduceLeDiff, Option.toList_some, Option.toList_none, List.nil_append, List.cons_append, zb_0, zb_1, zb_i0, zb_i1, zb_ij, ne_eq, Classical.not_not, zx_n_pI, zx_n_pR, zx_n_pF, zx_n_nw, zx_K_pI, zx_K_pR, zx_K_pF, zx_R_pI, zx_R_pF, zx_I_pR, zx_I_eq, zx_I_ne, zx_I_ek, zx_R_eq, zx_R_ne, zx_R_ek, nI_clamp, zn_in, nI_add, zn_mul, nI_leI, nI_ltI, nI_eq, reduceIte, Nat.reduceLT, Nat.reduceMul, Nat.reducePow, zup_at, zvp_at, zn_z, zn_o, eq_self, or_true, true_or, or_false, false_or, zb_0, zb_1, zb_ik, zn_m, zn_rm, zn_sub, zn_div, not_false_eq_true, not_true_eq_false, forall_const, false_implies, implies_true, and_self, Bool.false_eq_true, Nat.reduceEqDiff, false_and, and_false, Nat.reduceSub, z, z2]
        exact h
/-- the log nodes below n that are up promise -/
def cpr (σ : zs_S) (s v : Nat) (d : Nat → Nat) (n : Nat) : zs_S := (zs_n σ, zs_K σ, fun w q => if q = s ∧ ((w = 10 ∧ 0 < n ∧ d 0 = 0) ∨ (w = 13 ∧ 1 < n ∧ d 1 = 0) ∨ (w = 16 ∧ 2 < n ∧ d 2 = 0)) then nI v else zs_I σ w q, zs_R σ)
theorem cpr_I (σ : zs_S) (s v : Nat) (d : Nat → Nat) (n w q : Nat) : zs_I (cpr σ s v d n) w q = if q = s ∧ ((w = 10 ∧ 0 < n ∧ d 0 = 0) ∨ (w = 13 ∧ 1 < n ∧ d 1 = 0) ∨ (w = 16 ∧ 2 < n ∧ d 2 = 0)) then nI v else zs_I σ w q := rfl
theorem cpr_o (σ : zs_S) (s v : Nat) (d : Nat → Nat) (n w q : Nat) (h1 : ¬ w = 10) (h2 : ¬ w = 13) (h3 : ¬ w = 16) : zs_I (cpr σ s v d n) w q = zs_I σ w q := by
  rw [cpr_I, if_neg (by omega)]
theorem cpr_K (σ : zs_S) (s v : Nat) (d : Nat → Nat) (n : Nat) : zs_K (cpr σ s v d n) = zs_K σ := rfl
theorem cpr_R (σ : zs_S) (s v : Nat) (d : Nat → Nat) (n : Nat) : zs_R (cpr σ s v d n) = zs_R σ := rfl
theorem cpr_s (σ : zs_S) (s v : Nat) (d : Nat → Nat) (l : Nat) (hl : l < 3) : cpr σ s v d (l + 1) = if d l = 0 then zs_pI (cpr σ s v d l) (10 + 3 * l) s (nI v) else cpr σ s v d l := by
  by_cases g : d l = 0
  · rw [if_pos g]
    refine zs_ext rfl rfl (fun w q => ?_) (fun w q => rfl)
    rw [zx_I_pI, cpr_I, cpr_I]
    by_cases g1 : w = 10 + 3 * l ∧ q = s
    · rw [if_pos g1, if_pos]
      rcases (show l = 0 ∨ l = 1 ∨ l = 2 by omega) with rfl | rfl | rfl
      · exact ⟨g1.2, Or.inl ⟨by omega, by omega, g⟩⟩
      · exact ⟨g1.2, Or.inr (Or.inl ⟨by omega, by omega, g⟩)⟩
      · exact ⟨g1.2, Or.inr (Or.inr ⟨by omega, by omega, g⟩)⟩
    · rw [if_neg g1]
      have i : (q = s ∧ ((w = 10 ∧ 0 < l + 1 ∧ d 0 = 0) ∨ (w = 13 ∧ 1 < l + 1 ∧ d 1 = 0) ∨ (w = 16 ∧ 2 < l + 1 ∧ d 2 = 0))) ↔ (q = s ∧ ((w = 10 ∧ 0 < l ∧ d 0 = 0) ∨ (w = 13 ∧ 1 < l ∧ d 1 = 0) ∨ (w = 16 ∧ 2 < l ∧ d 2 = 0))) := by omega
      simp only [i]
  · rw [if_neg g]
    refine zs_ext rfl rfl (fun w q => ?_) (fun w q => rfl)
    rw [cpr_I, cpr_I]
    have i : (q = s ∧ ((w = 10 ∧ 0 < l + 1 ∧ d 0 = 0) ∨ (w = 13 ∧ 1 < l + 1 ∧ d 1 = 0) ∨ (w = 16 ∧ 2 < l + 1 ∧ d 2 = 0))) ↔ (q = s ∧ ((w = 10 ∧ 0 < l ∧ d 0 = 0) ∨ (w = 13 ∧ 1 < l ∧ d 1 = 0) ∨ (w = 16 ∧ 2 < l ∧ d 2 = 0))) := by
      rcases (show l = 0 ∨ l = 1 ∨ l = 2 by omega) with rfl | rfl | rfl <;> omega
    simp only [i]
/-- the undecided slots below m are proposed anew -/
def cpm (σ : zs_S) (w b dd em : Nat → Nat) : Nat → zs_S
  | 0 => σ
  | e + 1 => if dd e = 0 then cpa (zs_pI (cpm σ w b dd em e) (w e) 1 (nI (em e))) (b e) else cpm σ w b dd em e
theorem cpm_K (σ : zs_S) (w b dd em : Nat → Nat) : ∀ m, zs_K (cpm σ w b dd em m) = zs_K σ
  | 0 => rfl
  | e + 1 => by unfold cpm; split <;> exact cpm_K σ w b dd em e
theorem cpm_R (σ : zs_S) (w b dd em : Nat → Nat) : ∀ m, zs_R (cpm σ w b dd em m) = zs_R σ
  | 0 => rfl
  | e + 1 => by unfold cpm; split <;> exact cpm_R σ w b dd em e
theorem cpa_I (σ : zs_S) (w c q : Nat) : zs_I (cpa σ w) c q = if c = w ∧ q < 3 then nI 0 else zs_I σ c q := by
  unfold cpa
  rw [zx_I_pI, zx_I_pI, zx_I_pI]
  by_cases g : c = w ∧ q < 3
  · rw [if_pos g]
    rcases (show q = 0 ∨ q = 1 ∨ q = 2 by omega) with rfl | rfl | rfl <;> simp [g.1]
  · rw [if_neg g, if_neg (by omega), if_neg (by omega), if_neg (by omega)]
theorem cpm_o (σ : zs_S) (w b dd em : Nat → Nat) (c q : Nat) : ∀ m, (∀ e, e < m → ¬ c = b e) → (¬ q = 1 ∨ ∀ e, e < m → ¬ c = w e) → zs_I (cpm σ w b dd em m) c q = zs_I σ c q
  | 0, _, _ => rfl
  | e + 1, hb, hw => by
    have ih := cpm_o σ w b dd em c q e (fun i hi => hb i (by omega)) (hw.elim Or.inl (fun z => Or.inr (fun i hi => z i (by omega))))
    unfold cpm
    split
    · rw [cpa_I, if_neg (fun z => hb e (by omega) z.1), zx_I_pI, if_neg (fun z => hw.elim (fun y => y z.2) (fun y => y e (by omega) z.1))]
      exact ih
    · exact ih
theorem cpm_n (σ : zs_S) (w b dd em : Nat → Nat) : ∀ m, zs_n (cpm σ w b dd em m) = zs_n σ
  | 0 => rfl
  | e + 1 => by unfold cpm; split <;> exact cpm_n σ w b dd em e
/-- the STOREs that are sent for the undecided slots below m -/
def cstm (s v : Nat) (dd em : Nat → Nat) : Nat → List (Nat × Nat)
  | 0 => []
  | e + 1 => cstm s v dd em e ++ (if dd e = 0 then cstl s e (em e) v (fun _ => 0) 3 else [])
theorem cstm_le (s v : Nat) (dd em : Nat → Nat) {m k : Nat} (h : m ≤ k) : (cstm s v dd em m).length ≤ (cstm s v dd em k).length := by
  induction k with
  | zero => rw [Nat.le_zero.mp h]; exact Nat.le_refl _
  | succ k ih =>
    by_cases e1 : m = k + 1
    · rw [e1]; exact Nat.le_refl _
    · have := ih (by omega)
      show _ ≤ (cstm s v dd em k ++ _).length
      rw [List.length_append]
      omega
theorem csnd_pI (σ : zs_S) (u : Nat) (L : List (Nat × Nat)) (c q : Nat) (x : Int32) (h3 : ¬ c = 3) (h4 : ¬ c = 4) (h5 : ¬ c = 5) : zs_pI (csnd σ u L) c q x = csnd (zs_pI σ c q x) u L := by
  refine zs_ext rfl rfl (fun w y => ?_) (fun w y => rfl)
  rw [zx_I_pI, csnd_I, csnd_I, zx_I_pI]
  by_cases g : w = c ∧ y = q
  · rw [if_pos g, if_neg (fun z => h3 (g.1.symm.trans z.1)), if_neg (fun z => h4 (g.1.symm.trans z.1)), if_neg (fun z => h5 (g.1.symm.trans z.1)), if_pos g]
  · rw [if_neg g, if_neg g]
theorem csnd_csnd (σ : zs_S) (u : Nat) (L L2 : List (Nat × Nat)) : csnd (csnd σ u L) (u + L.length) L2 = csnd σ u (L ++ L2) := by
  refine zs_ext rfl rfl (fun w q => ?_) (fun w q => rfl)
  rw [csnd_I, csnd_I, csnd_I, List.length_append]
  by_cases g : w = 3 ∧ q = 2
  · rw [if_pos g, if_pos g, Nat.add_assoc]
  · rw [if_neg g, if_neg g, if_neg g]
    by_cases hq : q < u + L.length
    · rw [if_neg (by omega), if_neg (by omega)]
      by_cases hq2 : u ≤ q
      · rw [List.getElem?_append_left (show q - u < L.length by omega)]
        have i4 : (w = 4 ∧ u ≤ q ∧ q < u + (L.length + L2.length)) ↔ (w = 4 ∧ u ≤ q ∧ q < u + L.length) := by omega
        have i5 : (w = 5 ∧ u ≤ q ∧ q < u + (L.length + L2.length)) ↔ (w = 5 ∧ u ≤ q ∧ q < u + L.length) := by omega
        simp only [i4, i5]
      · rw [if_neg (by omega), if_neg (by omega), if_neg (by omega), if_neg (by omega)]
    · rw [List.getElem?_append_right (show L.length ≤ q - u by omega), show q - u - L.length = q - (u + L.length) by omega]
      have i4 : (w = 4 ∧ u ≤ q ∧ q < u + (L.length + L2.length)) ↔ (w = 4 ∧ u + L.length ≤ q ∧ q < u + L.length + L2.length) := by omega
      have i5 : (w = 5 ∧ u ≤ q ∧ q < u + (L.length + L2.length)) ↔ (w = 5 ∧ u + L.length ≤ q ∧ q < u + L.length + L2.length) := by omega
      have i6 : ¬ (w = 4 ∧ u ≤ q ∧ q < u + L.length) := by omega
      have i7 : ¬ (w = 5 ∧ u ≤ q ∧ q < u + L.length) := by omega
      rw [if_neg i6, if_neg i7]
      simp only [i4, i5]
theorem cl_takeUp (P s n v u : Nat) (w b dd d : Nat → Nat) (g : Nat → Nat → Nat) (σ : zs_S) (Q : zs_Q) (hs : csb σ P) (hd : cdn σ d) (h2 : s < 2) (hv : zs_I σ (18 + 3 * s) 4 = nI v) (hv1 : v < 100000) (hn : zs_I σ (18 + 3 * s) 3 = nI n) (hn20 : n ≤ 20)
    (hw : ∀ e, e < n → zs_R σ (20 + 3 * s) e = some (w e) ∧ zs_K σ (w e) = (5, 0) ∧ zs_R σ (w e) 3 = some (b e) ∧ zs_K σ (b e) = (101, 3) ∧ zs_I σ (w e) 2 = nI (dd e) ∧ dd e < 2)
    (hg : ∀ e, e < n → ∀ l, l < 3 → zs_I σ (11 + 3 * l) (2 * e + s) = nI (g e l) ∧ g e l < 1000000) (hu : zs_I σ 3 2 = nI u) (hlen : u + (cstm s (v + 1) dd (fun e => cem d (g e)) n).length ≤ 100)
    (h : Q none (csnd (cpm (cpr (zs_pI σ (18 + 3 * s) 4 (nI (v + 1))) s (v + 1) d 3) w b dd (fun e => cem d (g e)) n) u (cstm s (v + 1) dd (fun e => cem d (g e)) n))) : zw_SB_takeUpSequencer [.ref 0, .int (nI s)] σ Q := by
  have hs' := hs
  obtain ⟨k0, s2, s3, s4, k4, k5, k6, k8, s9, s10, s11, k7, k13, spo, s15, s16, s17, hP0, hP⟩ := hs
  obtain ⟨q0, q1, q2, q3, q4, q5⟩ := s16 s h2
  have q3' : zs_R σ (18 + 3 * s) 2 = some (20 + 3 * s) := by rw [q3]; congr 1; omega
  have q5' : zs_K σ (20 + 3 * s) = (115, 20) := by rw [← q5]; congr 1; omega
  simp (disch := omega) only [zw_SB_takeUpSequencer, ze_SB_takeUpSequencer_0, zt_ild, zt_ald, zt_ist, zt_ast, zt_inc, zt_psh, zt_nul, zt_bin, zt_div, zt_if, zt_cmp, zt_ifn, zt_dup, zt_du2, zt_pop, zt_gtI, zt_gtR, zt_ptI, zt_ptZ, zt_ptR, zt_xld, zt_rld, zt_ias, zt_zas, zt_ras, zt_len, zt_irt, zt_zrt, zt_art, zt_vrt, zt_cal, zt_cav, zt_cai, zt_cas, zt_dfl, zt_oin, zt_nwa, zt_nwo, zs_args, zs_rv, zs_fits, zs_c1, Value.category, List.getElem?_cons_zero, List.getElem?_cons_succ, List.set_cons_zero, List.set_cons_succ, List.length_nil, List.length_cons, beq_self_eq_true, Bool.and_self, Bool.and_true, true_and, and_true, Nat.add_zero, Nat.zero_add, Nat.le_refl, Nat.zero_le, Nat.reduceAdd, Nat.reduceLeDiff, Option.toList_some, Option.toList_none, List.nil_append, List.cons_append, zb_0, zb_1, zb_i0, zb_i1, zb_ij, ne_eq, Classical.not_not, zx_n_pI, zx_n_pR, zx_n_pF, zx_n_nw, zx_K_pI, zx_K_pR, zx_K_pF, zx_R_pI, zx_R_pF, zx_I_pR, zx_I_eq, zx_I_ne, zx_I_ek, zx_R_eq, zx_R_ne, zx_R_ek, nI_clamp, zn_in, nI_add, zn_mul, nI_leI, nI_ltI, nI_eq, reduceIte, Nat.reduceLT, Nat.reduceMul, Nat.reducePow, zup_at, zvp_at, zn_z, zn_o, eq_self, or_true, true_or, or_false, false_or, zb_0, zb_1, zb_ik, zn_m, zn_rm, zn_sub, zn_div, not_false_eq_true, not_true_eq_false, forall_const, false_implies, implies_true, and_self, Bool.false_eq_true, Nat.reduceEqDiff, false_and, and_false, Nat.reduceSub, k0, k6, k7, q0, q1, h2, hv]
  have hz := zx_for (body := zb_SB_takeUpSequencer_19 Q) (c := 0) (s := 0) (fun l => [some (.ref 0), some (.int (nI s)), some (.ref (18 + 3 * s)), some (.int (nI l)), none]) (fun l => cpr (zs_pI σ (18 + 3 * s) 4 (nI (v + 1))) s (v + 1) d l) 3 0 ?_ ?_ (Nat.zero_le _)
  · have e0 : cpr (zs_pI σ (18 + 3 * s) 4 (nI (v + 1))) s (v + 1) d 0 = zs_pI σ (18 + 3 * s) 4 (nI (v + 1)) := by
      refine zs_ext rfl rfl (fun c q => ?_) (fun c q => rfl)
      rw [cpr_I, if_neg (by omega)]
    rw [e0] at hz
    exact hz
  · intro l _ hl K hK
    have e1 : ¬ 3 ≤ l := by omega
    have e7 : l < 7 := by omega
    obtain ⟨d1, d2⟩ := hd l e7
    obtain ⟨l0, l1, l2, l3, l4, l5⟩ := s15 l hl
    have l2' : zs_R σ (9 + 3 * l) 0 = some (10 + 3 * l) := by rw [l2]; congr 1; omega
    have l4' : zs_K σ (10 + 3 * l) = (100, 2) := by rw [← l4]; congr 1; omega
    have c1 : zs_I (cpr (zs_pI σ (18 + 3 * s) 4 (nI (v + 1))) s (v + 1) d l) 1 l = nI (d l) := by rw [cpr_o _ _ _ _ _ _ _ (by omega) (by omega) (by omega), zx_I_ne _ _ _ _ (by omega)]; exact d1
    have c2 : zs_I (cpr (zs_pI σ (18 + 3 * s) 4 (nI (v + 1))) s (v + 1) d l) (18 + 3 * s) 4 = nI (v + 1) := by rw [cpr_o _ _ _ _ _ _ _ (by omega) (by omega) (by omega), zx_I_eq]
    rw [cpr_s _ _ _ _ _ hl] at hK
    by_cases gd : d l = 0
    · rw [if_pos gd] at hK
      simp (disch := omega) only [ze_SB_takeUpSequencer_19, ze_SB_takeUpSequencer_24, ze_SB_takeUpSequencer_33, ze_SB_takeUpSequencer_48, zt_ild, zt_ald, zt_ist, zt_ast, zt_inc, zt_psh, zt_nul, zt_bin, zt_div, zt_if, zt_cmp, zt_ifn, zt_dup, zt_du2, zt_pop, zt_gtI, zt_gtR, zt_ptI, zt_ptZ, zt_ptR, zt_xld, zt_rld, zt_ias, zt_zas, zt_ras, zt_len, zt_irt, zt_zrt, zt_art, zt_vrt, zt_cal, zt_cav, zt_cai, zt_cas, zt_dfl, zt_oin, zt_nwa, zt_nwo, zs_args, zs_rv, zs_fits, zs_c1, Value.category, List.getElem?_cons_zero, List.getElem?_cons_succ, List.set_cons_zero, List.set_cons_succ, List.length_nil, List.length_cons, beq_self_eq_true, Bool.and_self, Bool.and_true, true_and, and_true, Nat.add_zero, Nat.zero_add, Nat.le_refl, Nat.zero_le, Nat.reduceAdd, Nat.reduceLeDiff, Option.toList_some, Option.toList_none, List.nil_append, List.cons_append, zb_0, zb_1, zb_i0, zb_i1, zb_ij, ne_eq, Classical.not_not, zx_n_pI, zx_n_pR, zx_n_pF, zx_n_nw, zx_K_pI, zx_K_pR, zx_K_pF, zx_R_pI, zx_R_pF, zx_I_pR, zx_I_eq, zx_I_ne, zx_I_ek, zx_R_eq, zx_R_ne, zx_R_ek, nI_clamp, zn_in, nI_add, zn_mul, nI_leI, nI_ltI, nI_eq, reduceIte, Nat.reduceLT, Nat.reduceMul, Nat.reducePow, zup_at, zvp_at, zn_z, zn_o, eq_self, or_true, true_or, or_false, false_or, zb_0, zb_1, zb_ik, zn_m, zn_rm, zn_sub, zn_div, not_false_eq_true, not_true_eq_false, forall_const, false_implies, implies_true, and_self, Bool.false_eq_true, Nat.reduceEqDiff, false_and, and_false, Nat.reduceSub, cpr_K, cpr_R, k0, k5, s3, s9, s11, e1, e7, c1, gd, l0, l1, l2', l4', hl, h2, q1, c2]
      exact hK
    · rw [if_neg gd] at hK
      have gd' : d l = 1 := by omega
      simp (disch := omega) only [ze_SB_takeUpSequencer_19, ze_SB_takeUpSequencer_24, ze_SB_takeUpSequencer_48, zt_ild, zt_ald, zt_ist, zt_ast, zt_inc, zt_psh, zt_nul, zt_bin, zt_div, zt_if, zt_cmp, zt_ifn, zt_dup, zt_du2, zt_pop, zt_gtI, zt_gtR, zt_ptI, zt_ptZ, zt_ptR, zt_xld, zt_rld, zt_ias, zt_zas, zt_ras, zt_len, zt_irt, zt_zrt, zt_art, zt_vrt, zt_cal, zt_cav, zt_cai, zt_cas, zt_dfl, zt_oin, zt_nwa, zt_nwo, zs_args, zs_rv, zs_fits, zs_c1, Value.category, List.getElem?_cons_zero, List.getElem?_cons_succ, List.set_cons_zero, List.set_cons_succ, List.length_nil, List.length_cons, beq_self_eq_true, Bool.and_self, Bool.and_true, true_and, and_true, Nat.add_zero, Nat.zero_add, Nat.le_refl, Nat.zero_le, Nat.reduceAdd, Nat.reduceLeDiff, Option.toList_some, Option.toList_none, List.nil_append, List.cons_append, zb_0, zb_1, zb_i0, zb_i1, zb_ij, ne_eq, Classical.not_not, zx_n_pI, zx_n_pR, zx_n_pF, zx_n_nw, zx_K_pI, zx_K_pR, zx_K_pF, zx_R_pI, zx_R_pF, zx_I_pR, zx_I_eq, zx_I_ne, zx_I_ek, zx_R_eq, zx_R_ne, zx_R_ek, nI_clamp, zn_in, nI_add, zn_mul, nI_leI, nI_ltI, nI_eq, reduceIte, Nat.reduceLT, Nat.reduceMul, Nat.reducePow, zup_at, zvp_at, zn_z, zn_o, eq_self, or_true, true_or, or_false, false_or, zb_0, zb_1, zb_ik, zn_m, zn_rm, zn_sub, zn_div, not_false_eq_true, not_true_eq_false, forall_const, false_implies, implies_true, and_self, Bool.false_eq_true, Nat.reduceEqDiff, false_and, and_false, Nat.reduceSub, cpr_K, cpr_R, k0, s3, s9, e1, e7, c1, gd']
      exact hK
  · intro K
    simp (disch := omega) only [ze_SB_takeUpSequencer_19, ze_SB_takeUpSequencer_54, zt_ild, zt_ald, zt_ist, zt_ast, zt_inc, zt_psh, zt_nul, zt_bin, zt_div, zt_if, zt_cmp, zt_ifn, zt_dup, zt_du2, zt_pop, zt_gtI, zt_gtR, zt_ptI, zt_ptZ, zt_ptR, zt_xld, zt_rld, zt_ias, zt_zas, zt_ras, zt_len, zt_irt, zt_zrt, zt_art, zt_vrt, zt_cal, zt_cav, zt_cai, zt_cas, zt_dfl, zt_oin, zt_nwa, zt_nwo, zs_args, zs_rv, zs_fits, zs_c1, Value.category, List.getElem?_cons_zero, List.getElem?_cons_succ, List.set_cons_zero, List.set_cons_succ, List.length_nil, List.length_cons, beq_self_eq_true, Bool.and_self, Bool.and_true, true_and, and_true, Nat.add_zero, Nat.zero_add, Nat.le_refl, Nat.zero_le, Nat.reduceAdd, Nat.reduceLeDiff, Option.toList_some, Option.toList_none, List.nil_append, List.cons_append, zb_0, zb_1, zb_i0, zb_i1, zb_ij, ne_eq, Classical.not_not, zx_n_pI, zx_n_pR, zx_n_pF, zx_n_nw, zx_K_pI, zx_K_pR, zx_K_pF, zx_R_pI, zx_R_pF, zx_I_pR, zx_I_eq, zx_I_ne, zx_I_ek, zx_R_eq, zx_R_ne, zx_R_ek, nI_clamp, zn_in, nI_add, zn_mul, nI_leI, nI_ltI, nI_eq, reduceIte, Nat.reduceLT, Nat.reduceMul, Nat.reducePow, zup_at, zvp_at, zn_z, zn_o, eq_self, or_true, true_or, or_false, false_or, zb_0, zb_1, zb_ik, zn_m, zn_rm, zn_sub, zn_div, not_false_eq_true, not_true_eq_false, forall_const, false_implies, implies_true, and_self, Bool.false_eq_true, Nat.reduceEqDiff, false_and, and_false, Nat.reduceSub]
    generalize hτ : cpr (zs_pI σ (18 + 3 * s) 4 (nI (v + 1))) s (v + 1) d 3 = τ at *
    have τK : zs_K τ = zs_K σ := by rw [← hτ]; rfl
    have τR : zs_R τ = zs_R σ := by rw [← hτ]; rfl
    have τI : ∀ c q, ¬ c = 10 → ¬ c = 13 → ¬ c = 16 → ¬ (c = 18 + 3 * s ∧ q = 4) → zs_I τ c q = zs_I σ c q := fun c q z1 z2 z3 z4 => by rw [← hτ, cpr_o _ _ _ _ _ _ _ z1 z2 z3, zx_I_pI, if_neg z4]
    have τv : zs_I τ (18 + 3 * s) 4 = nI (v + 1) := by rw [← hτ, cpr_o _ _ _ _ _ _ _ (by omega) (by omega) (by omega), zx_I_eq]
    have τu : zs_I τ 3 2 = nI u := by rw [τI _ _ (by omega) (by omega) (by omega) (by omega)]; exact hu
    have hem : ∀ e, cem d (g e) < 2 := fun e => by unfold cem; split <;> omega
    generalize hE : (fun e => cem d (g e)) = em at *
    have hEe : ∀ e, em e = cem d (g e) := fun e => by rw [← hE]
    have sK : ∀ m L, zs_K (csnd (cpm τ w b dd em m) u L) = zs_K σ := fun m L => by rw [csnd_K, cpm_K, τK]
    have sR : ∀ m L, zs_R (csnd (cpm τ w b dd em m) u L) = zs_R σ := fun m L => by rw [csnd_R, cpm_R, τR]
    have sI : ∀ m L, m ≤ n → ∀ c q, ¬ zs_K σ c = (101, 3) → (zs_K σ c = (5, 0) → ¬ q = 1) → ¬ c = 3 → ¬ c = 4 → ¬ c = 5 → zs_I (csnd (cpm τ w b dd em m) u L) c q = zs_I τ c q := fun m L hm c q z1 z2 z3 z4 z5 => by
      rw [csnd_o _ _ _ _ _ z3 z4 z5, cpm_o]
      · intro i hi z; rw [z, (hw i (by omega)).2.2.2.1] at z1; exact z1 rfl
      · by_cases y : q = 1
        · right; intro i hi z; rw [z, (hw i (by omega)).2.1] at z2; exact z2 rfl y
        · left; exact y
    have sC : ∀ m L, m ≤ n → csb (csnd (cpm τ w b dd em m) u L) P := fun m L hm => csb_of (σ := σ) (fun c _ => by rw [sK]) (by rw [sI m L hm 0 0 (by rw [k0]; decide) (by rw [k0]; decide) (by decide) (by decide) (by decide), τI _ _ (by decide) (by decide) (by decide) (by omega)]) (fun c q _ => by rw [sR]) hs'
    have sD : ∀ m L, m ≤ n → cdn (csnd (cpm τ w b dd em m) u L) d := fun m L hm x hx => by
      rw [sI m L hm 1 x (by rw [s9]; decide) (fun z => by rw [s9] at z; exact absurd z (by decide)) (by decide) (by decide) (by decide), τI _ _ (by decide) (by decide) (by decide) (by omega)]
      exact hd x hx
    have cn : ∀ m L, m ≤ n → zs_I (csnd (cpm τ w b dd em m) u L) (18 + 3 * s) 3 = nI n := fun m L hm => by
      rw [sI m L hm _ _ (by rw [q1]; decide) (by rw [q1]; decide) (by omega) (by omega) (by omega), τI _ _ (by omega) (by omega) (by omega) (by omega)]; exact hn
    have cv : ∀ m L, m ≤ n → zs_I (csnd (cpm τ w b dd em m) u L) (18 + 3 * s) 4 = nI (v + 1) := fun m L hm => by
      rw [sI m L hm _ _ (by rw [q1]; decide) (by rw [q1]; decide) (by omega) (by omega) (by omega)]; exact τv
    have hz := zx_loop (body := zb_SB_takeUpSequencer_56 Q) (c := 0) (s := 0) (fun x : Nat × Option Value => [some (.ref 0), some (.int (nI s)), some (.ref (18 + 3 * s)), some (.int (nI x.1)), x.2]) (fun x => csnd (cpm τ w b dd em x.1) u (cstm s (v + 1) dd em x.1)) (fun x => n - x.1) (fun x => x.1 ≤ n) ?_ (0, none) (Nat.zero_le _)
    · have e0 : csnd (cpm τ w b dd em 0) u (cstm s (v + 1) dd em 0) = τ := csnd_nil τ u τu
      dsimp only at hz
      rw [e0] at hz
      exact hz
    · rintro ⟨e, o⟩ he K hK
      dsimp only at he hK ⊢
      have cne := cn e (cstm s (v + 1) dd em e) he
      have sKe := sK e (cstm s (v + 1) dd em e)
      have sRe := sR e (cstm s (v + 1) dd em e)
      by_cases ge : e = n
      · subst ge
        simp (disch := omega) only [ze_SB_takeUpSequencer_56, ze_SB_takeUpSequencer_104, zt_ild, zt_ald, zt_ist, zt_ast, zt_inc, zt_psh, zt_nul, zt_bin, zt_div, zt_if, zt_cmp, zt_ifn, zt_dup, zt_du2, zt_pop, zt_gtI, zt_gtR, zt_ptI, zt_ptZ, zt_ptR, zt_xld, zt_rld, zt_ias, zt_zas, zt_ras, zt_len, zt_irt, zt_zrt, zt_art, zt_vrt, zt_cal, zt_cav, zt_cai, zt_cas, zt_dfl, zt_oin, zt_nwa, zt_nwo, zs_args, zs_rv, zs_fits, zs_c1, Value.category, List.getElem?_cons_zero, List.getElem?_cons_succ, List.set_cons_zero, List.set_cons_succ, List.length_nil, List.length_cons, beq_self_eq_true, Bool.and_self, Bool.and_true, true_and, and_true, Nat.add_zero, Nat.zero_add, Nat.le_refl, Nat.zero_le, Nat.reduceAdd, Nat.reduceLeDiff, Option.toList_some, Option.toList_none, List.nil_append, List.cons_append, zb_0, zb_1, zb_i0, zb_i1, zb_ij, ne_eq, Classical.not_not, zx_n_pI, zx_n_pR, zx_n_pF, zx_n_nw, zx_K_pI, zx_K_pR, zx_K_pF, zx_R_pI, zx_R_pF, zx_I_pR, zx_I_eq, zx_I_ne, zx_I_ek, zx_R_eq, zx_R_ne, zx_R_ek, nI_clamp, zn_in, nI_add, zn_mul, nI_leI, nI_ltI, nI_eq, reduceIte, Nat.reduceLT, Nat.reduceMul, Nat.reducePow, zup_at, zvp_at, zn_z, zn_o, eq_self, or_true, true_or, or_false, false_or, zb_0, zb_1, zb_ik, zn_m, zn_rm, zn_sub, zn_div, not_false_eq_true, not_true_eq_false, forall_const, false_implies, implies_true, and_self, Bool.false_eq_true, Nat.reduceEqDiff, false_and, and_false, Nat.reduceSub, sKe, q1, cne]
        exact h
      · have e1 : ¬ n ≤ e := by omega
        have e20 : e < 20 := by omega
        obtain ⟨w1, w2, w3, w4, w5, w6⟩ := hw e (by omega)
        have dw : ¬ w e = 3 ∧ ¬ w e = 4 ∧ ¬ w e = 5 ∧ ¬ w e = 10 ∧ ¬ w e = 13 ∧ ¬ w e = 16 ∧ ¬ w e = 18 + 3 * s := by
          obtain ⟨z1, z2, z3, z4, z5⟩ := spo
          have y0 := (s15 0 (by decide)).2.2.2.2.1
          have y1 := (s15 1 (by decide)).2.2.2.2.1
          have y2 := (s15 2 (by decide)).2.2.2.2.1
          refine ⟨fun z => ?_, fun z => ?_, fun z => ?_, fun z => ?_, fun z => ?_, fun z => ?_, fun z => ?_⟩
          · rw [z, z1] at w2; exact absurd w2 (by decide)
          · rw [z, z4] at w2; exact absurd w2 (by decide)
          · rw [z, z5] at w2; exact absurd w2 (by decide)
          · rw [z, y0] at w2; exact absurd w2 (by decide)
          · rw [z, y1] at w2; exact absurd w2 (by decide)
          · rw [z, y2] at w2; exact absurd w2 (by decide)
          · rw [z, q1] at w2; exact absurd w2 (by decide)
        have db : ¬ b e = 3 ∧ ¬ b e = 4 ∧ ¬ b e = 5 := by
          obtain ⟨z1, z2, z3, z4, z5⟩ := spo
          refine ⟨fun z => ?_, fun z => ?_, fun z => ?_⟩
          · rw [z, z1] at w4; exact absurd w4 (by decide)
          · rw [z, z4] at w4; exact absurd w4 (by decide)
          · rw [z, z5] at w4; exact absurd w4 (by decide)
        have cd : zs_I (csnd (cpm τ w b dd em e) u (cstm s (v + 1) dd em e)) (w e) 2 = nI (dd e) := by
          rw [sI e _ he _ _ (by rw [w2]; decide) (fun _ => by decide) dw.1 dw.2.1 dw.2.2.1, τI _ _ dw.2.2.2.1 dw.2.2.2.2.1 dw.2.2.2.2.2.1 (fun z => dw.2.2.2.2.2.2 z.1)]
          exact w5
        have k1 := hK (e + 1, some (.ref (w e))) (by dsimp only; omega) (by omega)
        dsimp only at k1
        by_cases gd : dd e = 0
        · have m1 : cpm τ w b dd em (e + 1) = cpa (zs_pI (cpm τ w b dd em e) (w e) 1 (nI (em e))) (b e) := by
            show (if dd e = 0 then _ else _) = _
            rw [if_pos gd]
          have m2 : cstm s (v + 1) dd em (e + 1) = cstm s (v + 1) dd em e ++ cstl s e (em e) (v + 1) (fun _ => 0) 3 := by
            show cstm s (v + 1) dd em e ++ (if dd e = 0 then _ else _) = _
            rw [if_pos gd]
          have m3 : cpa (zs_pI (csnd (cpm τ w b dd em e) u (cstm s (v + 1) dd em e)) (w e) 1 (nI (em e))) (b e) = csnd (cpm τ w b dd em (e + 1)) u (cstm s (v + 1) dd em e) := by
            rw [m1]
            unfold cpa
            rw [csnd_pI _ _ _ _ _ _ dw.1 dw.2.1 dw.2.2.1, csnd_pI _ _ _ _ _ _ db.1 db.2.1 db.2.2, csnd_pI _ _ _ _ _ _ db.1 db.2.1 db.2.2, csnd_pI _ _ _ _ _ _ db.1 db.2.1 db.2.2]
          have hle := cstm_le s (v + 1) dd em (show e + 1 ≤ n by omega)
          rw [m2, List.length_append, show (cstl s e (em e) (v + 1) (fun _ => 0) 3).length = 3 from rfl] at hle
          rw [m2, ← csnd_csnd] at k1
          rw [gd] at cd
          simp (disch := omega) only [ze_SB_takeUpSequencer_56, ze_SB_takeUpSequencer_64, ze_SB_takeUpSequencer_80, zt_ild, zt_ald, zt_ist, zt_ast, zt_inc, zt_psh, zt_nul, zt_bin, zt_div, zt_if, zt_cmp, zt_ifn, zt_dup, zt_du2, zt_pop, zt_gtI, zt_gtR, zt_ptI, zt_ptZ, zt_ptR, zt_xld, zt_rld, zt_ias, zt_zas, zt_ras, zt_len, zt_irt, zt_zrt, zt_art, zt_vrt, zt_cal, zt_cav, zt_cai, zt_cas, zt_dfl, zt_oin, zt_nwa, zt_nwo, zs_args, zs_rv, zs_fits, zs_c1, Value.category, List.getElem?_cons_zero, List.getElem?_cons_succ, List.set_cons_zero, List.set_cons_succ, List.length_nil, List.length_cons, beq_self_eq_true, Bool.and_self, Bool.and_true, true_and, and_true, Nat.add_zero, Nat.zero_add, Nat.le_refl, Nat.zero_le, Nat.reduceAdd, Nat.reduceLeDiff, Option.toList_some, Option.toList_none, List.nil_append, List.cons_append, zb_0, zb_1, zb_i0, zb_i1, zb_ij, ne_eq, Classical.not_not, zx_n_pI, zx_n_pR, zx_n_pF, zx_n_nw, zx_K_pI, zx_K_pR, zx_K_pF, zx_R_pI, zx_R_pF, zx_I_pR, zx_I_eq, zx_I_ne, zx_I_ek, zx_R_eq, zx_R_ne, zx_R_ek, nI_clamp, zn_in, nI_add, zn_mul, nI_leI, nI_ltI, nI_eq, reduceIte, Nat.reduceLT, Nat.reduceMul, Nat.reducePow, zup_at, zvp_at, zn_z, zn_o, eq_self, or_true, true_or, or_false, false_or, zb_0, zb_1, zb_ik, zn_m, zn_rm, zn_sub, zn_div, not_false_eq_true, not_true_eq_false, forall_const, false_implies, implies_true, and_self, Bool.false_eq_true, Nat.reduceEqDiff, false_and, and_false, Nat.reduceSub, sKe, sRe, q1, q3', q5', cne, e1, e20, w1, w2, cd, k0]
          refine cl_isEmpty P s e d (g e) _ _ (sC e _ he) (sD e _ he) h2 e20 (fun l hl => ?_) ?_
          · have l5 := (s15 l hl).2.2.2.2.2
            have l5' : zs_K σ (11 + 3 * l) = (100, 40) := by rw [← l5]; congr 1; omega
            rw [sI e _ he _ _ (by rw [l5']; decide) (fun z => by rw [l5'] at z; exact absurd z (by decide)) (by omega) (by omega) (by omega), τI _ _ (by omega) (by omega) (by omega) (by omega)]
            exact hg e (by omega) l hl
          · rw [← hEe e]
            have hem2 : em e < 2 := by rw [hEe e]; exact hem e
            simp (disch := omega) only [zt_ild, zt_ald, zt_ist, zt_ast, zt_inc, zt_psh, zt_nul, zt_bin, zt_div, zt_if, zt_cmp, zt_ifn, zt_dup, zt_du2, zt_pop, zt_gtI, zt_gtR, zt_ptI, zt_ptZ, zt_ptR, zt_xld, zt_rld, zt_ias, zt_zas, zt_ras, zt_len, zt_irt, zt_zrt, zt_art, zt_vrt, zt_cal, zt_cav, zt_cai, zt_cas, zt_dfl, zt_oin, zt_nwa, zt_nwo, zs_args, zs_rv, zs_fits, zs_c1, Value.category, List.getElem?_cons_zero, List.getElem?_cons_succ, List.set_cons_zero, List.set_cons_succ, List.length_nil, List.length_cons, beq_self_eq_true, Bool.and_self, Bool.and_true, true_and, and_true, Nat.add_zero, Nat.zero_add, Nat.le_refl, Nat.zero_le, Nat.reduceAdd, Nat.reduceLeDiff, Option.toList_some, Option.toList_none, List.nil_append, List.cons_append, zb_0, zb_1, zb_i0, zb_i1, zb_ij, ne_eq, Classical.not_not, zx_n_pI, zx_n_pR, zx_n_pF, zx_n_nw, zx_K_pI, zx_K_pR, zx_K_pF, zx_R_pI, zx_R_pF, zx_I_pR, zx_I_eq, zx_I_ne, zx_I_ek, zx_R_eq, zx_R_ne, zx_R_ek, nI_clamp, zn_in, nI_add, zn_mul, nI_leI, nI_ltI, nI_eq, reduceIte, Nat.reduceLT, Nat.reduceMul, Nat.reducePow, zup_at, zvp_at, zn_z, zn_o, eq_self, or_true, true_or, or_false, false_or, zb_0, zb_1, zb_ik, zn_m, zn_rm, zn_sub, zn_div, not_false_eq_true, not_true_eq_false, forall_const, false_implies, implies_true, and_self, Bool.false_eq_true, Nat.reduceEqDiff, false_and, and_false, Nat.reduceSub, sKe, w2]
            refine cl_propose (w e) (b e) (em e) _ _ (by rw [sKe]; exact w2) (by rw [sRe]; exact w3) (by rw [sKe]; exact w4) hem2 ?_
            rw [m3]
            have sK2 := sK (e + 1) (cstm s (v + 1) dd em e)
            have sR2 := sR (e + 1) (cstm s (v + 1) dd em e)
            simp (disch := omega) only [zt_ild, zt_ald, zt_ist, zt_ast, zt_inc, zt_psh, zt_nul, zt_bin, zt_div, zt_if, zt_cmp, zt_ifn, zt_dup, zt_du2, zt_pop, zt_gtI, zt_gtR, zt_ptI, zt_ptZ, zt_ptR, zt_xld, zt_rld, zt_ias, zt_zas, zt_ras, zt_len, zt_irt, zt_zrt, zt_art, zt_vrt, zt_cal, zt_cav, zt_cai, zt_cas, zt_dfl, zt_oin, zt_nwa, zt_nwo, zs_args, zs_rv, zs_fits, zs_c1, Value.category, List.getElem?_cons_zero, List.getElem?_cons_succ, List.set_cons_zero, List.set_cons_succ, List.length_nil, List.length_cons, beq_self_eq_true, Bool.and_self, Bool.and_true, true_and, and_true, Nat.add_zero, Nat.zero_add, Nat.le_refl, Nat.zero_le, Nat.reduceAdd, Nat.reduceLeDiff, Option.toList_some, Option.toList_none, List.nil_append, List.cons_append, zb_0, zb_1, zb_i0, zb_i1, zb_ij, ne_eq, Classical.not_not, zx_n_pI, zx_n_pR, zx_n_pF, zx_n_nw, zx_K_pI, zx_K_pR, zx_K_pF, zx_R_pI, zx_R_pF, zx_I_pR, zx_I_eq, zx_I_ne, zx_I_ek, zx_R_eq, zx_R_ne, zx_R_ek, nI_clamp, zn_in, nI_add, zn_mul, nI_leI, nI_ltI, nI_eq, reduceIte, Nat.reduceLT, Nat.reduceMul, Nat.reducePow, zup_at, zvp_at, zn_z, zn_o, eq_self, or_true, true_or, or_false, false_or, zb_0, zb_1, zb_ik, zn_m, zn_rm, zn_sub, zn_div, not_false_eq_true, not_true_eq_false, forall_const, false_implies, implies_true, and_self, Bool.false_eq_true, Nat.reduceEqDiff, false_and, and_false, Nat.reduceSub, sK2, k0]
            refine cl_sendStores P s e (w e) (b e) (em e) (v + 1) (u + (cstm s (v + 1) dd em e).length) (fun _ => 0) _ _ (sC (e + 1) _ (by omega)) h2 e20 (by rw [sR2]; exact w1) (by rw [sK2]; exact w2) (by rw [sR2]; exact w3) (by rw [sK2]; exact w4) (fun l hl => ⟨?_, by omega⟩) ?_ hem2 (cv (e + 1) _ (by omega)) (by rw [csnd_I, if_pos ⟨rfl, rfl⟩]) (by omega) ?_
            · rw [csnd_o _ _ _ _ _ db.1 db.2.1 db.2.2, m1, cpa_I, if_pos ⟨rfl, hl⟩]
            · have dwb : ¬ w e = b e := fun z => by rw [z, w4] at w2; exact absurd w2 (by decide)
              rw [csnd_o _ _ _ _ _ dw.1 dw.2.1 dw.2.2.1, m1, cpa_I, if_neg (fun z => dwb z.1), zx_I_eq]
            · simp (disch := omega) only [ze_SB_takeUpSequencer_98, zt_ild, zt_ald, zt_ist, zt_ast, zt_inc, zt_psh, zt_nul, zt_bin, zt_div, zt_if, zt_cmp, zt_ifn, zt_dup, zt_du2, zt_pop, zt_gtI, zt_gtR, zt_ptI, zt_ptZ, zt_ptR, zt_xld, zt_rld, zt_ias, zt_zas, zt_ras, zt_len, zt_irt, zt_zrt, zt_art, zt_vrt, zt_cal, zt_cav, zt_cai, zt_cas, zt_dfl, zt_oin, zt_nwa, zt_nwo, zs_args, zs_rv, zs_fits, zs_c1, Value.category, List.getElem?_cons_zero, List.getElem?_cons_succ, List.set_cons_zero, List.set_cons_succ, List.length_nil, List.length_cons, beq_self_eq_true, Bool.and_self, Bool.and_true, true_and, and_true, Nat.add_zero, Nat.zero_add, Nat.le_refl, Nat.zero_le, Nat.reduceAdd, Nat.reduceLeDiff, Option.toList_some, Option.toList_none, List.nil_append, List.cons_append, zb_0, zb_1, zb_i0, zb_i1, zb_ij, ne_eq, Classical.not_not, zx_n_pI, zx_n_pR, zx_n_pF, zx_n_nw, zx_K_pI, zx_K_pR, zx_K_pF, zx_R_pI, zx_R_pF, zx_I_pR, zx_I_eq, zx_I_ne, zx_I_ek, zx_R_eq, zx_R_ne, zx_R_ek, nI_clamp, zn_in, nI_add, zn_mul, nI_leI, nI_ltI, nI_eq, reduceIte, Nat.reduceLT, Nat.reduceMul, Nat.reducePow, zup_at, zvp_at, zn_z, zn_o, eq_self, or_true, true_or, or_false, false_or, zb_0, zb_1, zb_ik, zn_m, zn_rm, zn_sub, zn_div, not_false_eq_true, not_true_eq_false, forall_const, false_implies, implies_true, and_self, Bool.false_eq_true, Nat.reduceEqDiff, false_and, and_false, Nat.reduceSub]
              exact k1
        · have m1 : cpm τ w b dd em (e + 1) = cpm τ w b dd em e := by
            show (if dd e = 0 then _ else _) = _
            rw [if_neg gd]
          have m2 : cstm s (v + 1) dd em (e + 1) = cstm s (v + 1) dd em e := by
            show cstm s (v + 1) dd em e ++ (if dd e = 0 then _ else _) = _
            rw [if_neg gd, List.append_nil]
          have gd' : dd e = 1 := by omega
          rw [m1, m2] at k1
          rw [gd'] at cd
          simp (disch := omega) only [ze_SB_takeUpSequencer_56, ze_SB_takeUpSequencer_64, ze_SB_takeUpSequencer_98, zt_ild, zt_ald, zt_ist, zt_ast, zt_inc, zt_psh, zt_nul, zt_bin, zt_div, zt_if, zt_cmp, zt_ifn, zt_dup, zt_du2, zt_pop, zt_gtI, zt_gtR, zt_ptI, zt_ptZ, zt_ptR, zt_xld, zt_rld, zt_ias, zt_zas, zt_ras, zt_len, zt_irt, zt_zrt, zt_art, zt_vrt, zt_cal, zt_cav, zt_cai, zt_cas, zt_dfl, zt_oin, zt_nwa, zt_nwo, zs_args, zs_rv, zs_fits, zs_c1, Value.category, List.getElem?_cons_zero, List.getElem?_cons_succ, List.set_cons_zero, List.set_cons_succ, List.length_nil, List.length_cons, beq_self_eq_true, Bool.and_self, Bool.and_true, true_and, and_true, Nat.add_zero, Nat.zero_add, Nat.le_refl, Nat.zero_le, Nat.reduceAdd, Nat.reduceLeDiff, Option.toList_some, Option.toList_none, List.nil_append, List.cons_append, zb_0, zb_1, zb_i0, zb_i1, zb_ij, ne_eq, Classical.not_not, zx_n_pI, zx_n_pR, zx_n_pF, zx_n_nw, zx_K_pI, zx_K_pR, zx_K_pF, zx_R_pI, zx_R_pF, zx_I_pR, zx_I_eq, zx_I_ne, zx_I_ek, zx_R_eq, zx_R_ne, zx_R_ek, nI_clamp, zn_in, nI_add, zn_mul, nI_leI, nI_ltI, nI_eq, reduceIte, Nat.reduceLT, Nat.reduceMul, Nat.reducePow, zup_at, zvp_at, zn_z, zn_o, eq_self, or_true, true_or, or_false, false_or, zb_0, zb_1, zb_ik, zn_m, zn_rm, zn_sub, zn_div, not_false_eq_true, not_true_eq_false, forall_const, false_implies, implies_true, and_self, Bool.false_eq_true, Nat.reduceEqDiff, false_and, and_false, Nat.reduceSub, sKe, sRe, q1, q3', q5', cne, e1, e20, w1, w2, cd]
          exact k1
