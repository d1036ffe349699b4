/-! The class: replicas. -/
def crp (σ : zs_S) (v P : Nat) : Prop := zs_K σ v = (3, 0) ∧ zs_R σ v 0 = some (v + 1) ∧ zs_R σ v 2 = some (v + 2) ∧ zs_R σ v 4 = some (v + 3) ∧ zs_R σ v 6 = some (v + 4) ∧ zs_R σ v 7 = some (v + 7) ∧ zs_R σ v 8 = some (v + 5) ∧ zs_R σ v 9 = some (v + 6) ∧ zs_K σ (v + 1) = (115, 40) ∧ zs_K σ (v + 2) = (116, 100) ∧ zs_K σ (v + 3) = (100, 12) ∧ zs_K σ (v + 4) = (100, 12) ∧ zs_K σ (v + 5) = (100, 100) ∧ zs_K σ (v + 6) = (100, 100) ∧ zs_K σ (v + 7) = (111, P) ∧ ∀ p, p < P → zs_R σ (v + 7) p = some (v + 8 + 4 * p) ∧ cpt σ (v + 8 + 4 * p) (v + 9 + 4 * p) (v + 10 + 4 * p) (v + 11 + 4 * p)
theorem cl_numberInLog_in (v P n i t w : Nat) (σ : zs_S) (Q : zs_Q) (hs : crp σ v P) (hn : zs_I σ v 3 = nI n) (hn100 : n ≤ 100) (hi : i < n) (hw : zs_R σ (v + 2) i = some w) (hk : zs_K σ w = (6, 0)) (ht : zs_I σ w 0 = nI t) : zw_Rp_numberInLog [.ref v, .int (nI i)] σ Q ↔ Q (some (.int (nI t))) σ := by
  obtain ⟨s1, s2, s3, s4, s5, s6, s7, s8, s9, s10, s11, s12, s13, s14, s15, s16⟩ := hs
  have e1 : ¬ n ≤ i := by omega
  have e2 : i < 100 := by omega
  simp (disch := omega) only [zw_Rp_numberInLog, ze_Rp_numberInLog_0, ze_Rp_numberInLog_4, ze_Rp_numberInLog_12, ze_Rp_numberInLog_24, ze_Rp_numberInLog_25, zt_ild, zt_ald, zt_ist, zt_ast, zt_inc, zt_psh, zt_nul, zt_bin, zt_div, zt_if, zt_cmp, zt_ifn, zt_dup, zt_du2, zt_pop, zt_gtI, zt_gtR, zt_ptI, zt_ptZ, zt_ptR, zt_xld, zt_rld, zt_ias, zt_zas, zt_ras, zt_len, zt_irt, zt_zrt, zt_art, zt_vrt, zt_cal, zt_cav, zt_cai, zt_cas, zt_dfl, zt_oin, zt_nwa, zt_nwo, zs_args, zs_rv, zs_fits, zs_c1, Value.category, List.getElem?_cons_zero, List.getElem?_cons_succ, List.set_cons_zero, List.set_cons_succ, List.length_nil, List.length_cons, beq_self_eq_true, Bool.and_self, Bool.and_true, true_and, and_true, Nat.add_zero, Nat.zero_add, Nat.le_refl, Nat.zero_le, Nat.reduceAdd, Nat.reduceLeDiff, Option.toList_some, Option.toList_none, List.nil_append, List.cons_append, zb_0, zb_1, zb_i0, zb_i1, zb_ij, ne_eq, Classical.not_not, zx_n_pI, zx_n_pR, zx_n_pF, zx_n_nw, zx_K_pI, zx_K_pR, zx_K_pF, zx_R_pI, zx_R_pF, zx_I_pR, zx_I_eq, zx_I_ne, zx_I_ek, zx_R_eq, zx_R_ne, zx_R_ek, nI_clamp, zn_in, nI_add, zn_mul, nI_leI, nI_ltI, nI_eq, reduceIte, Nat.reduceLT, Nat.reduceMul, Nat.reducePow, zup_at, zvp_at, zn_z, zn_o, eq_self, or_true, true_or, or_false, false_or, zb_0, zb_1, zb_ik, zn_m, zn_rm, zn_sub, zn_div, not_false_eq_true, not_true_eq_false, forall_const, false_implies, implies_true, and_self, Bool.false_eq_true, Nat.reduceEqDiff, false_and, and_false, Nat.reduceSub, s1, s3, s10, hn, e1, e2, hw, hk, ht, Nat.not_lt_zero]
theorem cl_numberInLog_out (v P n : Nat) (x : Int32) (σ : zs_S) (Q : zs_Q) (hs : crp σ v P) (hn : zs_I σ v 3 = nI n) (hn100 : n ≤ 100) (hx : ¬ ∃ i, i < n ∧ x = nI i) : zw_Rp_numberInLog [.ref v, .int x] σ Q ↔ Q (some (.int (-1))) σ := by
  obtain ⟨s1, s2, s3, s4, s5, s6, s7, s8, s9, s10, s11, s12, s13, s14, s15, s16⟩ := hs
  have e1 : ¬ (nI 0 ≤ x ∧ x < nI n) := fun z => hx ((zin_lt (by omega)).mp z)
  by_cases g : x < nI 0
  · simp (disch := omega) only [zw_Rp_numberInLog, ze_Rp_numberInLog_0, ze_Rp_numberInLog_4, ze_Rp_numberInLog_12, ze_Rp_numberInLog_24, ze_Rp_numberInLog_25, zt_ild, zt_ald, zt_ist, zt_ast, zt_inc, zt_psh, zt_nul, zt_bin, zt_div, zt_if, zt_cmp, zt_ifn, zt_dup, zt_du2, zt_pop, zt_gtI, zt_gtR, zt_ptI, zt_ptZ, zt_ptR, zt_xld, zt_rld, zt_ias, zt_zas, zt_ras, zt_len, zt_irt, zt_zrt, zt_art, zt_vrt, zt_cal, zt_cav, zt_cai, zt_cas, zt_dfl, zt_oin, zt_nwa, zt_nwo, zs_args, zs_rv, zs_fits, zs_c1, Value.category, List.getElem?_cons_zero, List.getElem?_cons_succ, List.set_cons_zero, List.set_cons_succ, List.length_nil, List.length_cons, beq_self_eq_true, Bool.and_self, Bool.and_true, true_and, and_true, Nat.add_zero, Nat.zero_add, Nat.le_refl, Nat.zero_le, Nat.reduceAdd, Nat.reduceLeDiff, Option.toList_some, Option.toList_none, List.nil_append, List.cons_append, zb_0, zb_1, zb_i0, zb_i1, zb_ij, ne_eq, Classical.not_not, zx_n_pI, zx_n_pR, zx_n_pF, zx_n_nw, zx_K_pI, zx_K_pR, zx_K_pF, zx_R_pI, zx_R_pF, zx_I_pR, zx_I_eq, zx_I_ne, zx_I_ek, zx_R_eq, zx_R_ne, zx_R_ek, nI_clamp, zn_in, nI_add, zn_mul, nI_leI, nI_ltI, nI_eq, reduceIte, Nat.reduceLT, Nat.reduceMul, Nat.reducePow, zup_at, zvp_at, zn_z, zn_o, eq_self, or_true, true_or, or_false, false_or, zb_0, zb_1, zb_ik, zn_m, zn_rm, zn_sub, zn_div, not_false_eq_true, not_true_eq_false, forall_const, false_implies, implies_true, and_self, Bool.false_eq_true, Nat.reduceEqDiff, false_and, and_false, Nat.reduceSub, s1, hn, g]
  · have g2 : nI n ≤ x := Int32.not_lt.mp (fun z => e1 ⟨Int32.not_lt.mp g, z⟩)
    simp (disch := omega) only [zw_Rp_numberInLog, ze_Rp_numberInLog_0, ze_Rp_numberInLog_4, ze_Rp_numberInLog_12, ze_Rp_numberInLog_24, ze_Rp_numberInLog_25, zt_ild, zt_ald, zt_ist, zt_ast, zt_inc, zt_psh, zt_nul, zt_bin, zt_div, zt_if, zt_cmp, zt_ifn, zt_dup, zt_du2, zt_pop, zt_gtI, zt_gtR, zt_ptI, zt_ptZ, zt_ptR, zt_xld, zt_rld, zt_ias, zt_zas, zt_ras, zt_len, zt_irt, zt_zrt, zt_art, zt_vrt, zt_cal, zt_cav, zt_cai, zt_cas, zt_dfl, zt_oin, zt_nwa, zt_nwo, zs_args, zs_rv, zs_fits, zs_c1, Value.category, List.getElem?_cons_zero, List.getElem?_cons_succ, List.set_cons_zero, List.set_cons_succ, List.length_nil, List.length_cons, beq_self_eq_true, Bool.and_self, Bool.and_true, true_and, and_true, Nat.add_zero, Nat.zero_add, Nat.le_refl, Nat.zero_le, Nat.reduceAdd, Nat.reduceLeDiff, Option.toList_some, Option.toList_none, List.nil_append, List.cons_append, zb_0, zb_1, zb_i0, zb_i1, zb_ij, ne_eq, Classical.not_not, zx_n_pI, zx_n_pR, zx_n_pF, zx_n_nw, zx_K_pI, zx_K_pR, zx_K_pF, zx_R_pI, zx_R_pF, zx_I_pR, zx_I_eq, zx_I_ne, zx_I_ek, zx_R_eq, zx_R_ne, zx_R_ek, nI_clamp, zn_in, nI_add, zn_mul, nI_leI, nI_ltI, nI_eq, reduceIte, Nat.reduceLT, Nat.reduceMul, Nat.reducePow, zup_at, zvp_at, zn_z, zn_o, eq_self, or_true, true_or, or_false, false_or, zb_0, zb_1, zb_ik, zn_m, zn_rm, zn_sub, zn_div, not_false_eq_true, not_true_eq_false, forall_const, false_implies, implies_true, and_self, Bool.false_eq_true, Nat.reduceEqDiff, false_and, and_false, Nat.reduceSub, s1, hn, g, g2]
/-- the log of replica v, of length n, with the cells L behind it -/
def capl (σ : zs_S) (v n : Nat) (L : List Nat) : zs_S := (zs_n σ, zs_K σ, fun w q => if w = v ∧ q = 3 then nI (n + L.length) else zs_I σ w q, fun w q => if w = v + 2 ∧ n ≤ q ∧ q < n + L.length then L[q - n]? else zs_R σ w q)
theorem capl_I (σ : zs_S) (v n : Nat) (L : List Nat) (w q : Nat) : zs_I (capl σ v n L) w q = if w = v ∧ q = 3 then nI (n + L.length) else zs_I σ w q := rfl
theorem capl_R (σ : zs_S) (v n : Nat) (L : List Nat) (w q : Nat) : zs_R (capl σ v n L) w q = if w = v + 2 ∧ n ≤ q ∧ q < n + L.length then L[q - n]? else zs_R σ w q := rfl
theorem capl_K (σ : zs_S) (v n : Nat) (L : List Nat) : zs_K (capl σ v n L) = zs_K σ := rfl
theorem capl_push (σ : zs_S) (v n : Nat) (L : List Nat) (t : Nat) : zs_pI (zs_pR (capl σ v n L) (v + 2) (n + L.length) (some t)) v 3 (nI (n + L.length + 1)) = capl σ v n (L ++ [t]) := by
  refine zs_ext rfl rfl (fun w q => ?_) (fun w q => ?_)
  · rw [zx_I_pI, zx_I_pR, capl_I, capl_I, List.length_append]
    by_cases h : w = v ∧ q = 3
    · rw [if_pos h, if_pos h]; rfl
    · rw [if_neg h, if_neg h, if_neg h]
  · rw [zx_R_pI, zx_R_pR, capl_R, capl_R, List.length_append]
    by_cases h : w = v + 2
    · subst h
      by_cases hq : q = n + L.length
      · subst hq
        rw [if_pos ⟨rfl, rfl⟩, if_pos ⟨rfl, by omega, by simp⟩, List.getElem?_append_right (by omega)]
        simp
      · rw [if_neg (fun z => hq z.2)]
        by_cases h2 : n ≤ q ∧ q < n + L.length
        · rw [if_pos ⟨rfl, h2.1, h2.2⟩, if_pos ⟨rfl, h2.1, by simp; omega⟩, List.getElem?_append_left (by omega)]
        · rw [if_neg (fun z => h2 z.2), if_neg (fun z => h2 ⟨z.2.1, by have := z.2.2; simp at this; omega⟩)]
    · rw [if_neg (fun z => h z.1), if_neg (fun z => h z.1), if_neg (fun z => h z.1)]
theorem capl_nil (σ : zs_S) (v n : Nat) (hn : zs_I σ v 3 = nI n) : capl σ v n [] = σ := by
  refine zs_ext rfl rfl (fun w q => ?_) (fun w q => ?_)
  · rw [capl_I]
    by_cases h : w = v ∧ q = 3
    · obtain ⟨rfl, rfl⟩ := h; rw [if_pos ⟨rfl, rfl⟩, hn]; rfl
    · rw [if_neg h]
  · rw [capl_R, if_neg (fun z => by have := z.2.2; simp at this; omega)]
theorem capl_capl (σ : zs_S) (v n : Nat) (L L2 : List Nat) : capl (capl σ v n L) v (n + L.length) L2 = capl σ v n (L ++ L2) := by
  refine zs_ext rfl rfl (fun w q => ?_) (fun w q => ?_)
  · rw [capl_I, capl_I, capl_I, List.length_append]
    by_cases h : w = v ∧ q = 3
    · rw [if_pos h, if_pos h, Nat.add_assoc]
    · rw [if_neg h, if_neg h, if_neg h]
  · rw [capl_R, capl_R, capl_R, List.length_append]
    by_cases h : w = v + 2
    · subst h
      by_cases h2 : n + L.length ≤ q ∧ q < n + L.length + L2.length
      · rw [if_pos ⟨rfl, h2⟩, if_pos ⟨rfl, by omega, by omega⟩, List.getElem?_append_right (by omega)]
        congr 1; omega
      · rw [if_neg (fun z => h2 z.2)]
        by_cases h3 : n ≤ q ∧ q < n + L.length
        · rw [if_pos ⟨rfl, h3⟩, if_pos ⟨rfl, h3.1, by omega⟩, List.getElem?_append_left (by omega)]
        · rw [if_neg (fun z => h3 z.2), if_neg (fun z => by omega)]
    · rw [if_neg (fun z => h z.1), if_neg (fun z => h z.1), if_neg (fun z => h z.1)]
/-- a slot with its original: the cells L of the transactions -/
def csl (σ : zs_S) (w e o : Nat) (L : List Nat) : Prop := zs_K σ w = (5, 0) ∧ zs_I σ w 1 = nI e ∧ e < 2 ∧ zs_R σ w 0 = some o ∧ zs_K σ o = (116, L.length) ∧ ∀ i t, L[i]? = some t → zs_R σ o i = some t ∧ zs_K σ t = (6, 0)
theorem cl_append (v P n w e o : Nat) (L : List Nat) (σ : zs_S) (Q : zs_Q) (hs : crp σ v P) (hn : zs_I σ v 3 = nI n) (hl : csl σ w e o L) (hn100 : e = 0 → n + L.length ≤ 100) (hne : ¬ w = v ∧ ¬ o = v + 2 ∧ ¬ w = v + 2) (h : Q none (if e = 0 then capl σ v n L else σ)) : zw_Rp_appendToLog [.ref v, .ref w] σ Q := by
  obtain ⟨s1, s2, s3, s4, s5, s6, s7, s8, s9, s10, s11, s12, s13, s14, s15, s16⟩ := hs
  obtain ⟨l1, l2, l3, l4, l5, l6⟩ := hl
  obtain ⟨d1, d2, d3⟩ := hne
  rcases (show e = 0 ∨ e = 1 by omega) with rfl | rfl
  · have hn1 := hn100 rfl
    simp (disch := omega) only [zw_Rp_appendToLog, ze_Rp_appendToLog_0, ze_Rp_appendToLog_7, ze_Rp_appendToLog_8, ze_Rp_appendToLog_10, ze_Rp_appendToLog_19, ze_Rp_appendToLog_50, zt_ild, zt_ald, zt_ist, zt_ast, zt_inc, zt_psh, zt_nul, zt_bin, zt_div, zt_if, zt_cmp, zt_ifn, zt_dup, zt_du2, zt_pop, zt_gtI, zt_gtR, zt_ptI, zt_ptZ, zt_ptR, zt_xld, zt_rld, zt_ias, zt_zas, zt_ras, zt_len, zt_irt, zt_zrt, zt_art, zt_vrt, zt_cal, zt_cav, zt_cai, zt_cas, zt_dfl, zt_oin, zt_nwa, zt_nwo, zs_args, zs_rv, zs_fits, zs_c1, Value.category, List.getElem?_cons_zero, List.getElem?_cons_succ, List.set_cons_zero, List.set_cons_succ, List.length_nil, List.length_cons, beq_self_eq_true, Bool.and_self, Bool.and_true, true_and, and_true, Nat.add_zero, Nat.zero_add, Nat.le_refl, Nat.zero_le, Nat.reduceAdd, Nat.reduceLeDiff, Option.toList_some, Option.toList_none, List.nil_append, List.cons_append, zb_0, zb_1, zb_i0, zb_i1, zb_ij, ne_eq, Classical.not_not, zx_n_pI, zx_n_pR, zx_n_pF, zx_n_nw, zx_K_pI, zx_K_pR, zx_K_pF, zx_R_pI, zx_R_pF, zx_I_pR, zx_I_eq, zx_I_ne, zx_I_ek, zx_R_eq, zx_R_ne, zx_R_ek, nI_clamp, zn_in, nI_add, zn_mul, nI_leI, nI_ltI, nI_eq, reduceIte, Nat.reduceLT, Nat.reduceMul, Nat.reducePow, zup_at, zvp_at, zn_z, zn_o, eq_self, or_true, true_or, or_false, false_or, zb_0, zb_1, zb_ik, zn_m, zn_rm, zn_sub, zn_div, not_false_eq_true, not_true_eq_false, forall_const, false_implies, implies_true, and_self, Bool.false_eq_true, Nat.reduceEqDiff, false_and, and_false, Nat.reduceSub, l1, l2]
    have hz := zx_for (body := zb_Rp_appendToLog_10 Q) (c := 0) (s := 0) (fun i => [some (.ref v), some (.ref w), some (.int (nI i))]) (fun i => capl σ v n (L.take i)) L.length 0 ?_ ?_ (Nat.zero_le _)
    · rw [List.take_zero, capl_nil σ v n hn] at hz
      exact hz
    · intro i _ hi K hK
      obtain ⟨t, ht⟩ : ∃ t, L[i]? = some t := ⟨_, List.getElem?_eq_getElem hi⟩
      obtain ⟨q1, q2⟩ := l6 i t ht
      have e1 : ¬ L.length ≤ i := by omega
      have e2 : (L.take i).length = i := by rw [List.length_take]; omega
      have e3 : n + i < 100 := by omega
      have c1 : zs_R (capl σ v n (L.take i)) v 2 = some (v + 2) := by rw [capl_R, if_neg (by omega)]; exact s3
      have c2 : zs_I (capl σ v n (L.take i)) v 3 = nI (n + i) := by rw [capl_I, if_pos ⟨rfl, rfl⟩, e2]
      have c3 : zs_R (capl σ v n (L.take i)) w 0 = some o := by rw [capl_R, if_neg (fun z => d3 z.1)]; exact l4
      have c4 : zs_R (capl σ v n (L.take i)) o i = some t := by rw [capl_R, if_neg (fun z => d2 z.1)]; exact q1
      have key := capl_push σ v n (L.take i) t
      rw [e2] at key
      rw [show L.take (i + 1) = L.take i ++ [t] by rw [List.take_succ, ht]; rfl] at hK
      simp (disch := omega) only [ze_Rp_appendToLog_0, ze_Rp_appendToLog_7, ze_Rp_appendToLog_8, ze_Rp_appendToLog_10, ze_Rp_appendToLog_19, ze_Rp_appendToLog_50, zt_ild, zt_ald, zt_ist, zt_ast, zt_inc, zt_psh, zt_nul, zt_bin, zt_div, zt_if, zt_cmp, zt_ifn, zt_dup, zt_du2, zt_pop, zt_gtI, zt_gtR, zt_ptI, zt_ptZ, zt_ptR, zt_xld, zt_rld, zt_ias, zt_zas, zt_ras, zt_len, zt_irt, zt_zrt, zt_art, zt_vrt, zt_cal, zt_cav, zt_cai, zt_cas, zt_dfl, zt_oin, zt_nwa, zt_nwo, zs_args, zs_rv, zs_fits, zs_c1, Value.category, List.getElem?_cons_zero, List.getElem?_cons_succ, List.set_cons_zero, List.set_cons_succ, List.length_nil, List.length_cons, beq_self_eq_true, Bool.and_self, Bool.and_true, true_and, and_true, Nat.add_zero, Nat.zero_add, Nat.le_refl, Nat.zero_le, Nat.reduceAdd, Nat.reduceLeDiff, Option.toList_some, Option.toList_none, List.nil_append, List.cons_append, zb_0, zb_1, zb_i0, zb_i1, zb_ij, ne_eq, Classical.not_not, zx_n_pI, zx_n_pR, zx_n_pF, zx_n_nw, zx_K_pI, zx_K_pR, zx_K_pF, zx_R_pI, zx_R_pF, zx_I_pR, zx_I_eq, zx_I_ne, zx_I_ek, zx_R_eq, zx_R_ne, zx_R_ek, nI_clamp, zn_in, nI_add, zn_mul, nI_leI, nI_ltI, nI_eq, reduceIte, Nat.reduceLT, Nat.reduceMul, Nat.reducePow, zup_at, zvp_at, zn_z, zn_o, eq_self, or_true, true_or, or_false, false_or, zb_0, zb_1, zb_ik, zn_m, zn_rm, zn_sub, zn_div, not_false_eq_true, not_true_eq_false, forall_const, false_implies, implies_true, and_self, Bool.false_eq_true, Nat.reduceEqDiff, false_and, and_false, Nat.reduceSub, capl_K, s1, s10, l1, l5, c1, c2, c3, c4, e1, e3, hi, q2, key]
      exact hK
    · intro K
      have c3 : zs_R (capl σ v n (L.take L.length)) w 0 = some o := by rw [capl_R, if_neg (fun z => d3 z.1)]; exact l4
      simp (disch := omega) only [ze_Rp_appendToLog_0, ze_Rp_appendToLog_7, ze_Rp_appendToLog_8, ze_Rp_appendToLog_10, ze_Rp_appendToLog_19, ze_Rp_appendToLog_50, zt_ild, zt_ald, zt_ist, zt_ast, zt_inc, zt_psh, zt_nul, zt_bin, zt_div, zt_if, zt_cmp, zt_ifn, zt_dup, zt_du2, zt_pop, zt_gtI, zt_gtR, zt_ptI, zt_ptZ, zt_ptR, zt_xld, zt_rld, zt_ias, zt_zas, zt_ras, zt_len, zt_irt, zt_zrt, zt_art, zt_vrt, zt_cal, zt_cav, zt_cai, zt_cas, zt_dfl, zt_oin, zt_nwa, zt_nwo, zs_args, zs_rv, zs_fits, zs_c1, Value.category, List.getElem?_cons_zero, List.getElem?_cons_succ, List.set_cons_zero, List.set_cons_succ, List.length_nil, List.length_cons, beq_self_eq_true, Bool.and_self, Bool.and_true, true_and, and_true, Nat.add_zero, Nat.zero_add, Nat.le_refl, Nat.zero_le, Nat.reduceAdd, Nat.reduceLeDiff, Option.toList_some, Option.toList_none, List.nil_append, List.cons_append, zb_0, zb_1, zb_i0, zb_i1, zb_ij, ne_eq, Classical.not_not, zx_n_pI, zx_n_pR, zx_n_pF, zx_n_nw, zx_K_pI, zx_K_pR, zx_K_pF, zx_R_pI, zx_R_pF, zx_I_pR, zx_I_eq, zx_I_ne, zx_I_ek, zx_R_eq, zx_R_ne, zx_R_ek, nI_clamp, zn_in, nI_add, zn_mul, nI_leI, nI_ltI, nI_eq, reduceIte, Nat.reduceLT, Nat.reduceMul, Nat.reducePow, zup_at, zvp_at, zn_z, zn_o, eq_self, or_true, true_or, or_false, false_or, zb_0, zb_1, zb_ik, zn_m, zn_rm, zn_sub, zn_div, not_false_eq_true, not_true_eq_false, forall_const, false_implies, implies_true, and_self, Bool.false_eq_true, Nat.reduceEqDiff, false_and, and_false, Nat.reduceSub, capl_K, l1, l5, c3]
      rw [List.take_length]
      simpa using h
  · simp (disch := omega) only [zw_Rp_appendToLog, ze_Rp_appendToLog_0, ze_Rp_appendToLog_7, ze_Rp_appendToLog_8, ze_Rp_appendToLog_10, ze_Rp_appendToLog_19, ze_Rp_appendToLog_50, zt_ild, zt_ald, zt_ist, zt_ast, zt_inc, zt_psh, zt_nul, zt_bin, zt_div, zt_if, zt_cmp, zt_ifn, zt_dup, zt_du2, zt_pop, zt_gtI, zt_gtR, zt_ptI, zt_ptZ, zt_ptR, zt_xld, zt_rld, zt_ias, zt_zas, zt_ras, zt_len, zt_irt, zt_zrt, zt_art, zt_vrt, zt_cal, zt_cav, zt_cai, zt_cas, zt_dfl, zt_oin, zt_nwa, zt_nwo, zs_args, zs_rv, zs_fits, zs_c1, Value.category, List.getElem?_cons_zero, List.getElem?_cons_succ, List.set_cons_zero, List.set_cons_succ, List.length_nil, List.length_cons, beq_self_eq_true, Bool.and_self, Bool.and_true, true_and, and_true, Nat.add_zero, Nat.zero_add, Nat.le_refl, Nat.zero_le, Nat.reduceAdd, Nat.reduceLeDiff, Option.toList_some, Option.toList_none, List.nil_append, List.cons_append, zb_0, zb_1, zb_i0, zb_i1, zb_ij, ne_eq, Classical.not_not, zx_n_pI, zx_n_pR, zx_n_pF, zx_n_nw, zx_K_pI, zx_K_pR, zx_K_pF, zx_R_pI, zx_R_pF, zx_I_pR, zx_I_eq, zx_I_ne, zx_I_ek, zx_R_eq, zx_R_ne, zx_R_ek, nI_clamp, zn_in, nI_add, zn_mul, nI_leI, nI_ltI, nI_eq, reduceIte, Nat.reduceLT, Nat.reduceMul, Nat.reducePow, zup_at, zvp_at, zn_z, zn_o, eq_self, or_true, true_or, or_false, false_or, zb_0, zb_1, zb_ik, zn_m, zn_rm, zn_sub, zn_div, not_false_eq_true, not_true_eq_false, forall_const, false_implies, implies_true, and_self, Bool.false_eq_true, Nat.reduceEqDiff, false_and, and_false, Nat.reduceSub, l1, l2]
    simpa using h
