/-! The class: replicas look, receive, admits, checkpoint. -/
/-- what finishIfComplete does to a transaction that has looked -/
def cfi (τ : zs_S) (v p c j t n k : Nat) : zs_S := if zs_I τ t 6 &&& zs_I τ (v + 8 + 4 * p) 0 = nI 0 then cfin τ (v + 8 + 4 * p) (v + 9 + 4 * p) (v + 10 + 4 * p) c j (c - 1) else if zs_I τ t 5 &&& ((zs_I τ (v + 8 + 4 * p) 0 ||| zs_I τ (v + 11 + 4 * p) n) ^^^ -1) = nI 0 then cfin (cwr τ v t n k (zs_I τ (v + 8 + 4 * p) 0) 12) (v + 8 + 4 * p) (v + 9 + 4 * p) (v + 10 + 4 * p) c j (c - 1) else τ
theorem cl_fic1 (v P p c j n k a b : Nat) (f l : Nat → Nat) (σ : zs_S) (Q : zs_Q) (hs : crp σ v P) (hp : p < P) (hc : zs_I σ (v + 8 + 4 * p) 4 = nI c) (hc10 : c ≤ 10) (hu : cun σ (v + 9 + 4 * p) (v + 10 + 4 * p) c f l) (hj : j < c) (ht : ctn σ (f j) n k a b) (hl : l j = 1) (h : Q none (cfi σ v p c j (f j) n k)) : zw_Rp_finishIfComplete [.ref v, .ref (v + 8 + 4 * p), .int (nI j)] σ Q := by
  unfold cfi at h
  refine cl_fic v P p c j n k a b f l σ Q hs hp hc hc10 hu hj ht (fun z => by omega) (fun _ z => ?_) (fun _ z1 z2 => ?_) (fun _ z1 z2 => ?_)
  · rw [if_pos z] at h; exact h
  · rw [if_neg z1, if_neg z2] at h; exact h
  · rw [if_neg z1, if_pos z2] at h; exact h
theorem ckr_K (σ : zs_S) (v t n a b : Nat) (x : Int32) : zs_K (ckr σ v t n a b x) = zs_K σ := by
  unfold ckr ckr1; split <;> split <;> rfl
theorem ckr_R (σ : zs_S) (v t n a b : Nat) (x : Int32) : zs_R (ckr σ v t n a b x) = zs_R σ := by
  unfold ckr ckr1; split <;> split <;> rfl
theorem ckr_I (σ : zs_S) (v t n a b : Nat) (x : Int32) (w q : Nat) (h5 : ¬ w = v + 5) (h6 : ¬ w = v + 6) : zs_I (ckr σ v t n a b x) w q = zs_I σ w q := by
  unfold ckr ckr1
  split <;> split <;> simp only [zx_I_ne _ _ _ _ h5, zx_I_ne _ _ _ _ h6]
theorem cl_look (v P p c : Nat) (x : Int32) (f l nn kk aa bb : Nat → Nat) (σ : zs_S) (Q : zs_Q) (hs : crp σ v P) (hp : p < P) (hP : P ≤ 4) (hc : zs_I σ (v + 8 + 4 * p) 4 = nI c) (hc10 : c ≤ 10) (hu : cun σ (v + 9 + 4 * p) (v + 10 + 4 * p) c f l) (ht : ∀ j, j < c → ctn σ (f j) (nn j) (kk j) (aa j) (bb j))
    (h1 : ∀ j, j < c → crdy σ (zs_I σ (v + 8 + 4 * p) 0) f l j = true → x = nI (mC (crdy σ (zs_I σ (v + 8 + 4 * p) 0) f l) j) → Q (some (.ref (f j))) (cfi (zs_pI (ckr σ v (f j) (nn j) (aa j) (bb j) (zs_I σ (v + 8 + 4 * p) 0)) (v + 10 + 4 * p) j (nI 1)) v p c j (f j) (nn j) (kk j)))
    (h2 : (∀ j, j < c → crdy σ (zs_I σ (v + 8 + 4 * p) 0) f l j = true → ¬ x = nI (mC (crdy σ (zs_I σ (v + 8 + 4 * p) 0) f l) j)) → Q (some .null) σ) : zw_Rp_lookAtReady [.ref v, .int (nI p), .int x] σ Q := by
  have hs' := hs
  obtain ⟨s1, s2, s3, s4, s5, s6, s7, s8, s9, s10, s11, s12, s13, s14, s15, s16⟩ := hs
  obtain ⟨sp, hpt⟩ := s16 p hp
  have hpt' := hpt
  obtain ⟨p1, p2, p3, p4, p5, p6, p7, p8, p9, p10, p11, p12, p13⟩ := hpt
  simp (disch := omega) only [zw_Rp_lookAtReady, ze_Rp_lookAtReady_0, zt_ild, zt_ald, zt_ist, zt_ast, zt_inc, zt_psh, zt_nul, zt_bin, zt_div, zt_if, zt_cmp, zt_ifn, zt_dup, zt_du2, zt_pop, zt_gtI, zt_gtR, zt_ptI, zt_ptZ, zt_ptR, zt_xld, zt_rld, zt_ias, zt_zas, zt_ras, zt_len, zt_irt, zt_zrt, zt_art, zt_vrt, zt_cal, zt_cav, zt_cai, zt_cas, zt_dfl, zt_oin, zt_nwa, zt_nwo, zs_args, zs_rv, zs_fits, zs_c1, Value.category, List.getElem?_cons_zero, List.getElem?_cons_succ, List.set_cons_zero, List.set_cons_succ, List.length_nil, List.length_cons, beq_self_eq_true, Bool.and_self, Bool.and_true, true_and, and_true, Nat.add_zero, Nat.zero_add, Nat.le_refl, Nat.zero_le, Nat.reduceAdd, Nat.reduceLeDiff, Option.toList_some, Option.toList_none, List.nil_append, List.cons_append, zb_0, zb_1, zb_i0, zb_i1, zb_ij, ne_eq, Classical.not_not, zx_n_pI, zx_n_pR, zx_n_pF, zx_n_nw, zx_K_pI, zx_K_pR, zx_K_pF, zx_R_pI, zx_R_pF, zx_I_pR, zx_I_eq, zx_I_ne, zx_I_ek, zx_R_eq, zx_R_ne, zx_R_ek, nI_clamp, zn_in, nI_add, zn_mul, nI_leI, nI_ltI, nI_eq, reduceIte, Nat.reduceLT, Nat.reduceMul, Nat.reducePow, zup_at, zvp_at, zn_z, zn_o, eq_self, or_true, true_or, or_false, false_or, zb_0, zb_1, zb_ik, zn_m, zn_rm, zn_sub, zn_div, not_false_eq_true, not_true_eq_false, forall_const, false_implies, implies_true, and_self, Bool.false_eq_true, Nat.reduceEqDiff, false_and, and_false, Nat.reduceSub, s1, s6, s15, sp, hp, p1]
  refine cl_indexOfReady _ _ _ _ c x f l σ _ hpt' hc hc10 hu ?_ ?_
  · intro j hj hr hx
    have hq := h1 j hj hr hx
    obtain ⟨q1, q2, q3, q4⟩ := hu j hj
    have e1 : ¬ nI j = (-1 : Int32) := fun z => by have := nI_pos (n := j) (by omega); rw [z] at this; exact this (by decide)
    have e2 : j < 10 := by omega
    simp (disch := omega) only [ze_Rp_lookAtReady_22, zt_ild, zt_ald, zt_ist, zt_ast, zt_inc, zt_psh, zt_nul, zt_bin, zt_div, zt_if, zt_cmp, zt_ifn, zt_dup, zt_du2, zt_pop, zt_gtI, zt_gtR, zt_ptI, zt_ptZ, zt_ptR, zt_xld, zt_rld, zt_ias, zt_zas, zt_ras, zt_len, zt_irt, zt_zrt, zt_art, zt_vrt, zt_cal, zt_cav, zt_cai, zt_cas, zt_dfl, zt_oin, zt_nwa, zt_nwo, zs_args, zs_rv, zs_fits, zs_c1, Value.category, List.getElem?_cons_zero, List.getElem?_cons_succ, List.set_cons_zero, List.set_cons_succ, List.length_nil, List.length_cons, beq_self_eq_true, Bool.and_self, Bool.and_true, true_and, and_true, Nat.add_zero, Nat.zero_add, Nat.le_refl, Nat.zero_le, Nat.reduceAdd, Nat.reduceLeDiff, Option.toList_some, Option.toList_none, List.nil_append, List.cons_append, zb_0, zb_1, zb_i0, zb_i1, zb_ij, ne_eq, Classical.not_not, zx_n_pI, zx_n_pR, zx_n_pF, zx_n_nw, zx_K_pI, zx_K_pR, zx_K_pF, zx_R_pI, zx_R_pF, zx_I_pR, zx_I_eq, zx_I_ne, zx_I_ek, zx_R_eq, zx_R_ne, zx_R_ek, nI_clamp, zn_in, nI_add, zn_mul, nI_leI, nI_ltI, nI_eq, reduceIte, Nat.reduceLT, Nat.reduceMul, Nat.reducePow, zup_at, zvp_at, zn_z, zn_o, eq_self, or_true, true_or, or_false, false_or, zb_0, zb_1, zb_ik, zn_m, zn_rm, zn_sub, zn_div, not_false_eq_true, not_true_eq_false, forall_const, false_implies, implies_true, and_self, Bool.false_eq_true, Nat.reduceEqDiff, false_and, and_false, Nat.reduceSub, e1, p1, p2, p5, q1, e2, s1]
    refine cl_keep v P (f j) (nn j) (kk j) (aa j) (bb j) _ σ _ hs' (ht j hj) ?_
    have cK := ckr_K σ v (f j) (nn j) (aa j) (bb j) (zs_I σ (v + 8 + 4 * p) 0)
    have cR := ckr_R σ v (f j) (nn j) (aa j) (bb j) (zs_I σ (v + 8 + 4 * p) 0)
    have cI := ckr_I σ v (f j) (nn j) (aa j) (bb j) (zs_I σ (v + 8 + 4 * p) 0)
    generalize ckr σ v (f j) (nn j) (aa j) (bb j) (zs_I σ (v + 8 + 4 * p) 0) = τ at *
    have d5 : ∀ i, i < c → ¬ f i = v + 5 ∧ ¬ f i = v + 6 ∧ ¬ f i = v + 10 + 4 * p := fun i hi => by
      have z := (hu i hi).2.1
      refine ⟨fun y => ?_, fun y => ?_, fun y => ?_⟩
      · rw [y, s13] at z; exact absurd z (by decide)
      · rw [y, s14] at z; exact absurd z (by decide)
      · rw [y, p6] at z; exact absurd z (by decide)
    have kp1 : zs_K τ (v + 8 + 4 * p) = (1, 0) := by rw [cK]; exact p1
    have kp3 : zs_R τ (v + 8 + 4 * p) 3 = some (v + 10 + 4 * p) := by rw [cR]; exact p3
    have kp6 : zs_K τ (v + 10 + 4 * p) = (101, 10) := by rw [cK]; exact p6
    have ks1 : zs_K τ v = (3, 0) := by rw [cK]; exact s1
    simp (disch := omega) only [zt_ild, zt_ald, zt_ist, zt_ast, zt_inc, zt_psh, zt_nul, zt_bin, zt_div, zt_if, zt_cmp, zt_ifn, zt_dup, zt_du2, zt_pop, zt_gtI, zt_gtR, zt_ptI, zt_ptZ, zt_ptR, zt_xld, zt_rld, zt_ias, zt_zas, zt_ras, zt_len, zt_irt, zt_zrt, zt_art, zt_vrt, zt_cal, zt_cav, zt_cai, zt_cas, zt_dfl, zt_oin, zt_nwa, zt_nwo, zs_args, zs_rv, zs_fits, zs_c1, Value.category, List.getElem?_cons_zero, List.getElem?_cons_succ, List.set_cons_zero, List.set_cons_succ, List.length_nil, List.length_cons, beq_self_eq_true, Bool.and_self, Bool.and_true, true_and, and_true, Nat.add_zero, Nat.zero_add, Nat.le_refl, Nat.zero_le, Nat.reduceAdd, Nat.reduceLeDiff, Option.toList_some, Option.toList_none, List.nil_append, List.cons_append, zb_0, zb_1, zb_i0, zb_i1, zb_ij, ne_eq, Classical.not_not, zx_n_pI, zx_n_pR, zx_n_pF, zx_n_nw, zx_K_pI, zx_K_pR, zx_K_pF, zx_R_pI, zx_R_pF, zx_I_pR, zx_I_eq, zx_I_ne, zx_I_ek, zx_R_eq, zx_R_ne, zx_R_ek, nI_clamp, zn_in, nI_add, zn_mul, nI_leI, nI_ltI, nI_eq, reduceIte, Nat.reduceLT, Nat.reduceMul, Nat.reducePow, zup_at, zvp_at, zn_z, zn_o, eq_self, or_true, true_or, or_false, false_or, zb_0, zb_1, zb_ik, zn_m, zn_rm, zn_sub, zn_div, not_false_eq_true, not_true_eq_false, forall_const, false_implies, implies_true, and_self, Bool.false_eq_true, Nat.reduceEqDiff, false_and, and_false, Nat.reduceSub, kp1, kp3, kp6, e2, ks1]
    refine cl_fic1 v P p c j (nn j) (kk j) (aa j) (bb j) f (fun i => if i = j then 1 else l i) (zs_pI τ (v + 10 + 4 * p) j (nI 1)) _ (crp_of (σ := σ) cK (fun w q _ => by rw [zx_R_pI, cR]) hs') hp (by rw [zx_I_ne _ _ _ _ (by omega), cI _ _ (by omega) (by omega)]; exact hc) hc10 ?_ hj (ctn_of (σ := σ) cK (fun q => by rw [zx_I_ne _ _ _ _ (d5 j hj).2.2, cI _ _ (d5 j hj).1 (d5 j hj).2.1]) (ht j hj)) (by simp) ?_
    · intro i hi
      obtain ⟨z1, z2, z3, z4⟩ := hu i hi
      refine ⟨by rw [zx_R_pI, cR]; exact z1, by rw [zx_K_pI, cK]; exact z2, ?_, ?_⟩
      · by_cases e : i = j
        · subst e; rw [zx_I_eq]; simp
        · rw [zx_I_ek _ _ _ _ _ e, cI _ _ (by omega) (by omega)]; simp [e]; exact z3
      · by_cases e : i = j
        · simp [e]
        · simp [e]; exact z4
    · simp (disch := omega) only [zt_ild, zt_ald, zt_ist, zt_ast, zt_inc, zt_psh, zt_nul, zt_bin, zt_div, zt_if, zt_cmp, zt_ifn, zt_dup, zt_du2, zt_pop, zt_gtI, zt_gtR, zt_ptI, zt_ptZ, zt_ptR, zt_xld, zt_rld, zt_ias, zt_zas, zt_ras, zt_len, zt_irt, zt_zrt, zt_art, zt_vrt, zt_cal, zt_cav, zt_cai, zt_cas, zt_dfl, zt_oin, zt_nwa, zt_nwo, zs_args, zs_rv, zs_fits, zs_c1, Value.category, List.getElem?_cons_zero, List.getElem?_cons_succ, List.set_cons_zero, List.set_cons_succ, List.length_nil, List.length_cons, beq_self_eq_true, Bool.and_self, Bool.and_true, true_and, and_true, Nat.add_zero, Nat.zero_add, Nat.le_refl, Nat.zero_le, Nat.reduceAdd, Nat.reduceLeDiff, Option.toList_some, Option.toList_none, List.nil_append, List.cons_append, zb_0, zb_1, zb_i0, zb_i1, zb_ij, ne_eq, Classical.not_not, zx_n_pI, zx_n_pR, zx_n_pF, zx_n_nw, zx_K_pI, zx_K_pR, zx_K_pF, zx_R_pI, zx_R_pF, zx_I_pR, zx_I_eq, zx_I_ne, zx_I_ek, zx_R_eq, zx_R_ne, zx_R_ek, nI_clamp, zn_in, nI_add, zn_mul, nI_leI, nI_ltI, nI_eq, reduceIte, Nat.reduceLT, Nat.reduceMul, Nat.reducePow, zup_at, zvp_at, zn_z, zn_o, eq_self, or_true, true_or, or_false, false_or, zb_0, zb_1, zb_ik, zn_m, zn_rm, zn_sub, zn_div, not_false_eq_true, not_true_eq_false, forall_const, false_implies, implies_true, and_self, Bool.false_eq_true, Nat.reduceEqDiff, false_and, and_false, Nat.reduceSub]
      exact hq
  · intro hx
    simp (disch := omega) only [ze_Rp_lookAtReady_20, zt_ild, zt_ald, zt_ist, zt_ast, zt_inc, zt_psh, zt_nul, zt_bin, zt_div, zt_if, zt_cmp, zt_ifn, zt_dup, zt_du2, zt_pop, zt_gtI, zt_gtR, zt_ptI, zt_ptZ, zt_ptR, zt_xld, zt_rld, zt_ias, zt_zas, zt_ras, zt_len, zt_irt, zt_zrt, zt_art, zt_vrt, zt_cal, zt_cav, zt_cai, zt_cas, zt_dfl, zt_oin, zt_nwa, zt_nwo, zs_args, zs_rv, zs_fits, zs_c1, Value.category, List.getElem?_cons_zero, List.getElem?_cons_succ, List.set_cons_zero, List.set_cons_succ, List.length_nil, List.length_cons, beq_self_eq_true, Bool.and_self, Bool.and_true, true_and, and_true, Nat.add_zero, Nat.zero_add, Nat.le_refl, Nat.zero_le, Nat.reduceAdd, Nat.reduceLeDiff, Option.toList_some, Option.toList_none, List.nil_append, List.cons_append, zb_0, zb_1, zb_i0, zb_i1, zb_ij, ne_eq, Classical.not_not, zx_n_pI, zx_n_pR, zx_n_pF, zx_n_nw, zx_K_pI, zx_K_pR, zx_K_pF, zx_R_pI, zx_R_pF, zx_I_pR, zx_I_eq, zx_I_ne, zx_I_ek, zx_R_eq, zx_R_ne, zx_R_ek, nI_clamp, zn_in, nI_add, zn_mul, nI_leI, nI_ltI, nI_eq, reduceIte, Nat.reduceLT, Nat.reduceMul, Nat.reducePow, zup_at, zvp_at, zn_z, zn_o, eq_self, or_true, true_or, or_false, false_or, zb_0, zb_1, zb_ik, zn_m, zn_rm, zn_sub, zn_div, not_false_eq_true, not_true_eq_false, forall_const, false_implies, implies_true, and_self, Bool.false_eq_true, Nat.reduceEqDiff, false_and, and_false, Nat.reduceSub]
    exact h2 hx
theorem cl_receive (v P p q t c : Nat) (f l nn kk aa bb : Nat → Nat) (σ : zs_S) (Q : zs_Q) (hs : crp σ v P) (hp : p < P) (hq : q < P) (hP : P ≤ 4) (htt : t < 100) (hc : zs_I σ (v + 8 + 4 * q) 4 = nI c) (hc10 : c ≤ 10) (hu : cun σ (v + 9 + 4 * q) (v + 10 + 4 * q) c f l) (ht : ∀ j, j < c → ctn σ (f j) (nn j) (kk j) (aa j) (bb j))
    (h0 : (∀ j, j < c → nn j = t → l j = 0) → Q none (zs_pI σ (v + 11 + 4 * q) t (zs_I σ (v + 11 + 4 * q) t ||| zs_I σ (v + 8 + 4 * p) 0)))
    (h1 : ∀ j, j < c → nn j = t → (∀ i, i < j → ¬ nn i = t) → l j = 1 → Q none (cfi (zs_pI σ (v + 11 + 4 * q) t (zs_I σ (v + 11 + 4 * q) t ||| zs_I σ (v + 8 + 4 * p) 0)) v q c j (f j) (nn j) (kk j)))
    (hd : ∀ i j, i < c → j < c → nn i = nn j → i = j) : zw_Rp_receiveValues [.ref v, .int (nI t), .int (nI p), .int (nI q)] σ Q := by
  have hs' := hs
  obtain ⟨s1, s2, s3, s4, s5, s6, s7, s8, s9, s10, s11, s12, s13, s14, s15, s16⟩ := hs
  obtain ⟨sp, hpt⟩ := s16 p hp
  obtain ⟨sq, hqt⟩ := s16 q hq
  have hqt' := hqt
  obtain ⟨p1, p2, p3, p4, p5, p6, p7, p8⟩ := hpt
  obtain ⟨q1, q2, q3, q4, q5, q6, q7, q8, q9, q10, q11, q12, q13⟩ := hqt
  simp (disch := omega) only [zw_Rp_receiveValues, ze_Rp_receiveValues_0, zt_ild, zt_ald, zt_ist, zt_ast, zt_inc, zt_psh, zt_nul, zt_bin, zt_div, zt_if, zt_cmp, zt_ifn, zt_dup, zt_du2, zt_pop, zt_gtI, zt_gtR, zt_ptI, zt_ptZ, zt_ptR, zt_xld, zt_rld, zt_ias, zt_zas, zt_ras, zt_len, zt_irt, zt_zrt, zt_art, zt_vrt, zt_cal, zt_cav, zt_cai, zt_cas, zt_dfl, zt_oin, zt_nwa, zt_nwo, zs_args, zs_rv, zs_fits, zs_c1, Value.category, List.getElem?_cons_zero, List.getElem?_cons_succ, List.set_cons_zero, List.set_cons_succ, List.length_nil, List.length_cons, beq_self_eq_true, Bool.and_self, Bool.and_true, true_and, and_true, Nat.add_zero, Nat.zero_add, Nat.le_refl, Nat.zero_le, Nat.reduceAdd, Nat.reduceLeDiff, Option.toList_some, Option.toList_none, List.nil_append, List.cons_append, zb_0, zb_1, zb_i0, zb_i1, zb_ij, ne_eq, Classical.not_not, zx_n_pI, zx_n_pR, zx_n_pF, zx_n_nw, zx_K_pI, zx_K_pR, zx_K_pF, zx_R_pI, zx_R_pF, zx_I_pR, zx_I_eq, zx_I_ne, zx_I_ek, zx_R_eq, zx_R_ne, zx_R_ek, nI_clamp, zn_in, nI_add, zn_mul, nI_leI, nI_ltI, nI_eq, reduceIte, Nat.reduceLT, Nat.reduceMul, Nat.reducePow, zup_at, zvp_at, zn_z, zn_o, eq_self, or_true, true_or, or_false, false_or, zb_0, zb_1, zb_ik, zn_m, zn_rm, zn_sub, zn_div, not_false_eq_true, not_true_eq_false, forall_const, false_implies, implies_true, and_self, Bool.false_eq_true, Nat.reduceEqDiff, false_and, and_false, Nat.reduceSub, s1, s6, s15, sp, sq, hp, hq, p1, q1, q4, q7, htt]
  generalize hτ : zs_pI σ (v + 11 + 4 * q) t (zs_I σ (v + 11 + 4 * q) t ||| zs_I σ (v + 8 + 4 * p) 0) = τ at *
  have cK : zs_K τ = zs_K σ := by rw [← hτ]; rfl
  have cR : zs_R τ = zs_R σ := by rw [← hτ]; rfl
  have cI : ∀ w y, ¬ w = v + 11 + 4 * q → zs_I τ w y = zs_I σ w y := fun w y hw => by rw [← hτ, zx_I_ne _ _ _ _ hw]
  have d5 : ∀ i, i < c → ¬ f i = v + 11 + 4 * q := fun i hi y => by
    have z := (hu i hi).2.1
    rw [y, q7] at z; exact absurd z (by decide)
  have hu2 : cun τ (v + 9 + 4 * q) (v + 10 + 4 * q) c f l := fun i hi => by
    obtain ⟨z1, z2, z3, z4⟩ := hu i hi
    exact ⟨by rw [cR]; exact z1, by rw [cK]; exact z2, by rw [cI _ _ (by omega)]; exact z3, z4⟩
  have hqt2 : cpt τ (v + 8 + 4 * q) (v + 9 + 4 * q) (v + 10 + 4 * q) (v + 11 + 4 * q) := cpt_of cK (fun y => by rw [cR]) hqt'
  have hc2 : zs_I τ (v + 8 + 4 * q) 4 = nI c := by rw [cI _ _ (by omega)]; exact hc
  have hn : ∀ j, j < c → zs_I τ (f j) 0 = nI (nn j) ∧ nn j < 100 := fun j hj => ⟨by rw [cI _ _ (d5 j hj)]; exact (ht j hj).2.1, (ht j hj).2.2.2.2.2.1⟩
  have hrs : crp τ v P := crp_of cK (fun w y _ => by rw [cR]) hs'
  refine cl_indexOfNumber _ _ _ _ c (nI t) f l τ _ hqt2 hc2 hc10 hu2 ?_ ?_
  · intro j hj hx hi
    have hx' : nn j = t := by
      obtain ⟨y1, y2⟩ := hn j hj
      rw [y1] at hx
      exact (nI_eq (by omega) (by omega)).mp hx
    have e1 : ¬ nI j = (-1 : Int32) := fun z => by have := nI_pos (n := j) (by omega); rw [z] at this; exact this (by decide)
    have ks1 : zs_K τ v = (3, 0) := by rw [cK]; exact s1
    simp (disch := omega) only [ze_Rp_receiveValues_41, zt_ild, zt_ald, zt_ist, zt_ast, zt_inc, zt_psh, zt_nul, zt_bin, zt_div, zt_if, zt_cmp, zt_ifn, zt_dup, zt_du2, zt_pop, zt_gtI, zt_gtR, zt_ptI, zt_ptZ, zt_ptR, zt_xld, zt_rld, zt_ias, zt_zas, zt_ras, zt_len, zt_irt, zt_zrt, zt_art, zt_vrt, zt_cal, zt_cav, zt_cai, zt_cas, zt_dfl, zt_oin, zt_nwa, zt_nwo, zs_args, zs_rv, zs_fits, zs_c1, Value.category, List.getElem?_cons_zero, List.getElem?_cons_succ, List.set_cons_zero, List.set_cons_succ, List.length_nil, List.length_cons, beq_self_eq_true, Bool.and_self, Bool.and_true, true_and, and_true, Nat.add_zero, Nat.zero_add, Nat.le_refl, Nat.zero_le, Nat.reduceAdd, Nat.reduceLeDiff, Option.toList_some, Option.toList_none, List.nil_append, List.cons_append, zb_0, zb_1, zb_i0, zb_i1, zb_ij, ne_eq, Classical.not_not, zx_n_pI, zx_n_pR, zx_n_pF, zx_n_nw, zx_K_pI, zx_K_pR, zx_K_pF, zx_R_pI, zx_R_pF, zx_I_pR, zx_I_eq, zx_I_ne, zx_I_ek, zx_R_eq, zx_R_ne, zx_R_ek, nI_clamp, zn_in, nI_add, zn_mul, nI_leI, nI_ltI, nI_eq, reduceIte, Nat.reduceLT, Nat.reduceMul, Nat.reducePow, zup_at, zvp_at, zn_z, zn_o, eq_self, or_true, true_or, or_false, false_or, zb_0, zb_1, zb_ik, zn_m, zn_rm, zn_sub, zn_div, not_false_eq_true, not_true_eq_false, forall_const, false_implies, implies_true, and_self, Bool.false_eq_true, Nat.reduceEqDiff, false_and, and_false, Nat.reduceSub, e1, ks1]
    rcases (show l j = 0 ∨ l j = 1 by have := (hu j hj).2.2.2; omega) with g | g
    · refine cl_fic v P q c j (nn j) (kk j) (aa j) (bb j) f l τ _ hrs hq hc2 hc10 hu2 hj (ctn_of cK (fun y => cI _ _ (d5 j hj)) (ht j hj)) (fun _ => ?_) (fun z => by omega) (fun z => by omega) (fun z => by omega)
      simp (disch := omega) only [ze_Rp_receiveValues_49, zt_ild, zt_ald, zt_ist, zt_ast, zt_inc, zt_psh, zt_nul, zt_bin, zt_div, zt_if, zt_cmp, zt_ifn, zt_dup, zt_du2, zt_pop, zt_gtI, zt_gtR, zt_ptI, zt_ptZ, zt_ptR, zt_xld, zt_rld, zt_ias, zt_zas, zt_ras, zt_len, zt_irt, zt_zrt, zt_art, zt_vrt, zt_cal, zt_cav, zt_cai, zt_cas, zt_dfl, zt_oin, zt_nwa, zt_nwo, zs_args, zs_rv, zs_fits, zs_c1, Value.category, List.getElem?_cons_zero, List.getElem?_cons_succ, List.set_cons_zero, List.set_cons_succ, List.length_nil, List.length_cons, beq_self_eq_true, Bool.and_self, Bool.and_true, true_and, and_true, Nat.add_zero, Nat.zero_add, Nat.le_refl, Nat.zero_le, Nat.reduceAdd, Nat.reduceLeDiff, Option.toList_some, Option.toList_none, List.nil_append, List.cons_append, zb_0, zb_1, zb_i0, zb_i1, zb_ij, ne_eq, Classical.not_not, zx_n_pI, zx_n_pR, zx_n_pF, zx_n_nw, zx_K_pI, zx_K_pR, zx_K_pF, zx_R_pI, zx_R_pF, zx_I_pR, zx_I_eq, zx_I_ne, zx_I_ek, zx_R_eq, zx_R_ne, zx_R_ek, nI_clamp, zn_in, nI_add, zn_mul, nI_leI, nI_ltI, nI_eq, reduceIte, Nat.reduceLT, Nat.reduceMul, Nat.reducePow, zup_at, zvp_at, zn_z, zn_o, eq_self, or_true, true_or, or_false, false_or, zb_0, zb_1, zb_ik, zn_m, zn_rm, zn_sub, zn_div, not_false_eq_true, not_true_eq_false, forall_const, false_implies, implies_true, and_self, Bool.false_eq_true, Nat.reduceEqDiff, false_and, and_false, Nat.reduceSub]
      refine h0 (fun i hi z => ?_)
      rw [hd i j hi hj (by rw [z, hx'])]
      exact g
    · refine cl_fic1 v P q c j (nn j) (kk j) (aa j) (bb j) f l τ _ hrs hq hc2 hc10 hu2 hj (ctn_of cK (fun y => cI _ _ (d5 j hj)) (ht j hj)) g ?_
      simp (disch := omega) only [ze_Rp_receiveValues_49, zt_ild, zt_ald, zt_ist, zt_ast, zt_inc, zt_psh, zt_nul, zt_bin, zt_div, zt_if, zt_cmp, zt_ifn, zt_dup, zt_du2, zt_pop, zt_gtI, zt_gtR, zt_ptI, zt_ptZ, zt_ptR, zt_xld, zt_rld, zt_ias, zt_zas, zt_ras, zt_len, zt_irt, zt_zrt, zt_art, zt_vrt, zt_cal, zt_cav, zt_cai, zt_cas, zt_dfl, zt_oin, zt_nwa, zt_nwo, zs_args, zs_rv, zs_fits, zs_c1, Value.category, List.getElem?_cons_zero, List.getElem?_cons_succ, List.set_cons_zero, List.set_cons_succ, List.length_nil, List.length_cons, beq_self_eq_true, Bool.and_self, Bool.and_true, true_and, and_true, Nat.add_zero, Nat.zero_add, Nat.le_refl, Nat.zero_le, Nat.reduceAdd, Nat.reduceLeDiff, Option.toList_some, Option.toList_none, List.nil_append, List.cons_append, zb_0, zb_1, zb_i0, zb_i1, zb_ij, ne_eq, Classical.not_not, zx_n_pI, zx_n_pR, zx_n_pF, zx_n_nw, zx_K_pI, zx_K_pR, zx_K_pF, zx_R_pI, zx_R_pF, zx_I_pR, zx_I_eq, zx_I_ne, zx_I_ek, zx_R_eq, zx_R_ne, zx_R_ek, nI_clamp, zn_in, nI_add, zn_mul, nI_leI, nI_ltI, nI_eq, reduceIte, Nat.reduceLT, Nat.reduceMul, Nat.reducePow, zup_at, zvp_at, zn_z, zn_o, eq_self, or_true, true_or, or_false, false_or, zb_0, zb_1, zb_ik, zn_m, zn_rm, zn_sub, zn_div, not_false_eq_true, not_true_eq_false, forall_const, false_implies, implies_true, and_self, Bool.false_eq_true, Nat.reduceEqDiff, false_and, and_false, Nat.reduceSub]
      refine h1 j hj hx' (fun i hij z => ?_) g
      have := hd i j (by omega) hj (by rw [z, hx'])
      omega
  · intro hx
    simp (disch := omega) only [ze_Rp_receiveValues_49, zt_ild, zt_ald, zt_ist, zt_ast, zt_inc, zt_psh, zt_nul, zt_bin, zt_div, zt_if, zt_cmp, zt_ifn, zt_dup, zt_du2, zt_pop, zt_gtI, zt_gtR, zt_ptI, zt_ptZ, zt_ptR, zt_xld, zt_rld, zt_ias, zt_zas, zt_ras, zt_len, zt_irt, zt_zrt, zt_art, zt_vrt, zt_cal, zt_cav, zt_cai, zt_cas, zt_dfl, zt_oin, zt_nwa, zt_nwo, zs_args, zs_rv, zs_fits, zs_c1, Value.category, List.getElem?_cons_zero, List.getElem?_cons_succ, List.set_cons_zero, List.set_cons_succ, List.length_nil, List.length_cons, beq_self_eq_true, Bool.and_self, Bool.and_true, true_and, and_true, Nat.add_zero, Nat.zero_add, Nat.le_refl, Nat.zero_le, Nat.reduceAdd, Nat.reduceLeDiff, Option.toList_some, Option.toList_none, List.nil_append, List.cons_append, zb_0, zb_1, zb_i0, zb_i1, zb_ij, ne_eq, Classical.not_not, zx_n_pI, zx_n_pR, zx_n_pF, zx_n_nw, zx_K_pI, zx_K_pR, zx_K_pF, zx_R_pI, zx_R_pF, zx_I_pR, zx_I_eq, zx_I_ne, zx_I_ek, zx_R_eq, zx_R_ne, zx_R_ek, nI_clamp, zn_in, nI_add, zn_mul, nI_leI, nI_ltI, nI_eq, reduceIte, Nat.reduceLT, Nat.reduceMul, Nat.reducePow, zup_at, zvp_at, zn_z, zn_o, eq_self, or_true, true_or, or_false, false_or, zb_0, zb_1, zb_ik, zn_m, zn_rm, zn_sub, zn_div, not_false_eq_true, not_true_eq_false, forall_const, false_implies, implies_true, and_self, Bool.false_eq_true, Nat.reduceEqDiff, false_and, and_false, Nat.reduceSub]
    refine h0 (fun j hj z => ?_)
    exact absurd (by rw [(hn j hj).1, z]) (hx j hj)
