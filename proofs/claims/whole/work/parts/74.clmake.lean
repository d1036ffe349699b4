/-! The class: submit, close, crash, restart, admits, checkpoint. -/
theorem ctr_K (σ : zs_S) (v : Nat) (t k a b n : Int32) : zs_K (ctr σ v t k a b n) = zs_K σ := rfl
theorem ctr_n (σ : zs_S) (v : Nat) (t k a b n : Int32) : zs_n (ctr σ v t k a b n) = zs_n σ := rfl
theorem ctr_R (σ : zs_S) (v : Nat) (t k a b n : Int32) (w q : Nat) : zs_R (ctr σ v t k a b n) w q = if w = v ∧ q = 7 then none else zs_R σ w q := by
  unfold ctr
  simp only [zx_R_pI, zx_R_pR]
theorem ctr_o (σ : zs_S) (v : Nat) (t k a b n : Int32) (w q : Nat) (h : ¬ w = v) : zs_I (ctr σ v t k a b n) w q = zs_I σ w q := by
  unfold ctr
  simp only [zx_I_ne _ _ _ _ h, zx_I_pR]
theorem ctr_i (σ : zs_S) (v : Nat) (t k a b n : Int32) : zs_I (ctr σ v t k a b n) v 0 = t ∧ zs_I (ctr σ v t k a b n) v 1 = k ∧ zs_I (ctr σ v t k a b n) v 2 = a ∧ zs_I (ctr σ v t k a b n) v 3 = cbb k a b ∧ zs_I (ctr σ v t k a b n) v 4 = n ∧ zs_I (ctr σ v t k a b n) v 5 = crk k a (cbb k a b) ∧ zs_I (ctr σ v t k a b n) v 6 = ckw k a (cbb k a b) n ∧ zs_I (ctr σ v t k a b n) v 8 = nI 0 := by
  unfold ctr
  simp (disch := omega) only [zx_I_eq, zx_I_ek, and_self]
def csub (σ : zs_S) (s T c : Nat) (k a b n : Int32) : zs_S := zs_pI (zs_pR (zs_pI (zs_pR (ctr (zs_nw σ (6, 0)) (zs_n σ) (nI T) k a b n) 2 T (some (zs_n σ))) 0 3 (nI (T + 1))) (19 + 3 * s) c (some (zs_n σ))) (18 + 3 * s) 1 (nI (c + 1))
theorem cl_submit_in (P s c T : Nat) (k a b n : Int32) (d : Nat → Nat) (σ : zs_S) (Q : zs_Q) (hs : csb σ P) (hd : cdn σ d) (h2 : s < 2) (g : d (3 + s) = 0) (hg : mgood k a b n = true) (hc : zs_I σ (18 + 3 * s) 1 = nI c) (hc6 : c < 6) (hT : zs_I σ 0 3 = nI T) (hT1 : T < 100) (hz : 40 ≤ zs_n σ) : zw_SB_submit [.ref 0, .int (nI s), .int k, .int a, .int b, .int n] σ Q ↔ Q (some (.int (nI T))) (csub σ s T c k a b n) := by
  have aq := fun Q' => cl_isAllowed k a b n σ Q'
  have uq := fun Q' => cl_seqUp_in P s d σ Q' hs hd h2
  obtain ⟨k0, s2, s3, s4, k4, k5, k6, k8, s9, s10, s11, k7, k13, spo, s15, s16, s17, hP0, hP⟩ := hs
  obtain ⟨q0, q1, q2, q3, q4, q5⟩ := s16 s h2
  have q2' : zs_R σ (18 + 3 * s) 0 = some (19 + 3 * s) := by rw [q2]; congr 1; omega
  have q4' : zs_K σ (19 + 3 * s) = (116, 6) := by rw [← q4]; congr 1; omega
  have bq := fun Q' => cl_batchFull (18 + 3 * s) c σ Q' q1 hc (by omega)
  have g2 : ¬ c = 6 := by omega
  have g3 : ¬ T = 100 := by omega
  have nK : ∀ w, w < zs_n σ → zs_K (zs_nw σ (6, 0)) w = zs_K σ w := fun w hw => by rw [zx_K_nw, if_neg (by omega)]
  have nI' : ∀ w q, w < zs_n σ → zs_I (zs_nw σ (6, 0)) w q = zs_I σ w q := fun w q hw => by rw [zx_I_nw, if_neg (by omega)]
  have nR : ∀ w q, w < zs_n σ → zs_R (zs_nw σ (6, 0)) w q = zs_R σ w q := fun w q hw => by rw [zx_R_nw, if_neg (by omega)]
  have kn : zs_K (zs_nw σ (6, 0)) (zs_n σ) = (6, 0) := by rw [zx_K_nw, if_pos rfl]
  have kn0 : zs_K (zs_nw σ (6, 0)) 0 = (7, 0) := by rw [nK _ (by omega)]; exact k0
  have in0 : zs_I (zs_nw σ (6, 0)) 0 3 = nI T := by rw [nI' _ _ (by omega)]; exact hT
  have tq := fun Q' => cl_Tr_init (zs_n σ) (nI T) k a b n (zs_nw σ (6, 0)) Q' kn
  unfold csub
  have tK := ctr_K (zs_nw σ (6, 0)) (zs_n σ) (nI T) k a b n
  have tR := ctr_R (zs_nw σ (6, 0)) (zs_n σ) (nI T) k a b n
  have tI := ctr_o (zs_nw σ (6, 0)) (zs_n σ) (nI T) k a b n
  have tT := (ctr_i (zs_nw σ (6, 0)) (zs_n σ) (nI T) k a b n).1
  generalize ctr (zs_nw σ (6, 0)) (zs_n σ) (nI T) k a b n = τ at *
  have t0 : zs_K τ 0 = (7, 0) := by rw [tK]; exact kn0
  have t2 : zs_K τ 2 = (116, 100) := by rw [tK, nK _ (by omega)]; exact s10
  have t3 : zs_R τ 0 2 = some 2 := by rw [tR, if_neg (by omega), nR _ _ (by omega)]; exact s4
  have t4 : zs_I τ 0 3 = nI T := by rw [tI _ _ (by omega)]; exact in0
  have t5 : zs_K τ (zs_n σ) = (6, 0) := by rw [tK]; exact kn
  have t6 : zs_R τ 0 6 = some 7 := by rw [tR, if_neg (by omega), nR _ _ (by omega)]; exact k6
  have t7 : zs_K τ 7 = (114, 2) := by rw [tK, nK _ (by omega)]; exact k7
  have t8 : zs_R τ 7 s = some (18 + 3 * s) := by rw [tR, if_neg (by omega), nR _ _ (by omega)]; exact q0
  have t9 : zs_K τ (18 + 3 * s) = (4, 0) := by rw [tK, nK _ (by omega)]; exact q1
  have t10 : zs_R τ (18 + 3 * s) 0 = some (19 + 3 * s) := by rw [tR, if_neg (by omega), nR _ _ (by omega)]; exact q2'
  have t11 : zs_K τ (19 + 3 * s) = (116, 6) := by rw [tK, nK _ (by omega)]; exact q4'
  have t12 : zs_I τ (18 + 3 * s) 1 = nI c := by rw [tI _ _ (by omega), nI' _ _ (by omega)]; exact hc
  have gq := fun Q' => cl_gather (18 + 3 * s) (19 + 3 * s) c (zs_n σ) (zs_pI (zs_pR τ 2 T (some (zs_n σ))) 0 3 (nI (T + 1))) Q' t9 (by rw [zx_R_pI, zx_R_ne _ _ _ _ (by omega)]; exact t10) t11 (by rw [zx_I_ne _ _ _ _ (by omega), zx_I_pR]; exact t12) hc6 t5
  simp (disch := omega) only [zw_SB_submit, ze_SB_submit_0, ze_SB_submit_8, ze_SB_submit_22, ze_SB_submit_34, ze_SB_submit_45, zt_ild, zt_ald, zt_ist, zt_ast, zt_inc, zt_psh, zt_nul, zt_bin, zt_div, zt_if, zt_cmp, zt_ifn, zt_dup, zt_du2, zt_pop, zt_gtI, zt_gtR, zt_ptI, zt_ptZ, zt_ptR, zt_xld, zt_rld, zt_ias, zt_zas, zt_ras, zt_len, zt_irt, zt_zrt, zt_art, zt_vrt, zt_cal, zt_cav, zt_cai, zt_cas, zt_dfl, zt_oin, zt_nwa, zt_nwo, zs_args, zs_rv, zs_fits, zs_c1, Value.category, List.getElem?_cons_zero, List.getElem?_cons_succ, List.set_cons_zero, List.set_cons_succ, List.length_nil, List.length_cons, beq_self_eq_true, Bool.and_self, Bool.and_true, true_and, and_true, Nat.add_zero, Nat.zero_add, Nat.le_refl, Nat.zero_le, Nat.reduceAdd, Nat.reduceLeDiff, Option.toList_some, Option.toList_none, List.nil_append, List.cons_append, zb_0, zb_1, zb_i0, zb_i1, zb_ij, ne_eq, Classical.not_not, zx_n_pI, zx_n_pR, zx_n_pF, zx_n_nw, zx_K_pI, zx_K_pR, zx_K_pF, zx_R_pI, zx_R_pF, zx_I_pR, zx_I_eq, zx_I_ne, zx_I_ek, zx_R_eq, zx_R_ne, zx_R_ek, nI_clamp, zn_in, nI_add, zn_mul, nI_leI, nI_ltI, nI_eq, reduceIte, Nat.reduceLT, Nat.reduceMul, Nat.reducePow, zup_at, zvp_at, zn_z, zn_o, eq_self, or_true, true_or, or_false, false_or, zb_0, zb_1, zb_ik, zn_m, zn_rm, zn_sub, zn_div, not_false_eq_true, not_true_eq_false, forall_const, false_implies, implies_true, and_self, Bool.false_eq_true, Nat.reduceEqDiff, false_and, and_false, Nat.reduceSub, k0, k6, k7, q0, q1, h2, uq, g, aq, hg, bq, g2, hT, g3, kn, kn0, in0, tq, t0, t2, t3, t4, t5, t6, t7, t8, t9, tT, hT1, gq]
theorem cl_close_in (P s u n c v x : Nat) (f d dd : Nat → Nat) (σ : zs_S) (Q : zs_Q) (hs : csb σ P) (hd : cdn σ d) (h2 : s < 2) (g : d (3 + s) = 0) (hu : zs_I σ 3 2 = nI u) (hu1 : ¬ 48 < u) (hn : zs_I σ (18 + 3 * s) 3 = nI n) (hn1 : n < 20) (hdd : ∀ e, e < n → dd e < 2 ∧ ∃ w, zs_R σ (20 + 3 * s) e = some w ∧ zs_K σ w = (5, 0) ∧ zs_I σ w 2 = nI (dd e)) (hm : mC (fun e => decide (dd e = 0)) n < 3)
    (hc : zs_I σ (18 + 3 * s) 1 = nI c) (hc6 : c ≤ 6) (hf : ∀ i, i < c → zs_R σ (19 + 3 * s) i = some (f i) ∧ zs_K σ (f i) = (6, 0) ∧ f i < zs_n σ ∧ 40 + 8 * P ≤ f i) (hv : zs_I σ (18 + 3 * s) 4 = nI v) (hz : 40 + 8 * P ≤ zs_n σ)
    (h : Q (some (.int (nI n))) (csnd (zs_pI (zs_pR (zs_pI (cmk σ c f c) (18 + 3 * s) 1 (nI 0)) (20 + 3 * s) n (some (zs_n σ + 1))) (18 + 3 * s) 3 (nI (n + 1))) u (cstl s n 0 v (fun _ => 0) 3))) : zw_SB_close [.ref 0, .int (nI s)] σ Q := by
  have hs' := hs
  have uq := fun Q' => cl_seqUp_in P s d σ Q' hs hd h2
  obtain ⟨k0, s2, s3, s4, k4, k5, k6, k8, s9, s10, s11, k7, k13, spo, s15, s16, s17, hP0, hP⟩ := hs
  have k3 := spo.1
  obtain ⟨q0, q1, q2, q3, q4, q5⟩ := s16 s h2
  have q2' : zs_R σ (18 + 3 * s) 0 = some (19 + 3 * s) := by rw [q2]; congr 1; omega
  have q3' : zs_R σ (18 + 3 * s) 2 = some (20 + 3 * s) := by rw [q3]; congr 1; omega
  have q4' : zs_K σ (19 + 3 * s) = (116, 6) := by rw [← q4]; congr 1; omega
  have q5' : zs_K σ (20 + 3 * s) = (115, 20) := by rw [← q5]; congr 1; omega
  have cq := fun Q' => cl_crowded σ Q' spo u hu (by omega)
  simp (disch := omega) only [zw_SB_close, ze_SB_close_0, ze_SB_close_8, zt_ild, zt_ald, zt_ist, zt_ast, zt_inc, zt_psh, zt_nul, zt_bin, zt_div, zt_if, zt_cmp, zt_ifn, zt_dup, zt_du2, zt_pop, zt_gtI, zt_gtR, zt_ptI, zt_ptZ, zt_ptR, zt_xld, zt_rld, zt_ias, zt_zas, zt_ras, zt_len, zt_irt, zt_zrt, zt_art, zt_vrt, zt_cal, zt_cav, zt_cai, zt_cas, zt_dfl, zt_oin, zt_nwa, zt_nwo, zs_args, zs_rv, zs_fits, zs_c1, Value.category, List.getElem?_cons_zero, List.getElem?_cons_succ, List.set_cons_zero, List.set_cons_succ, List.length_nil, List.length_cons, beq_self_eq_true, Bool.and_self, Bool.and_true, true_and, and_true, Nat.add_zero, Nat.zero_add, Nat.le_refl, Nat.zero_le, Nat.reduceAdd, Nat.reduceLeDiff, Option.toList_some, Option.toList_none, List.nil_append, List.cons_append, zb_0, zb_1, zb_i0, zb_i1, zb_ij, ne_eq, Classical.not_not, zx_n_pI, zx_n_pR, zx_n_pF, zx_n_nw, zx_K_pI, zx_K_pR, zx_K_pF, zx_R_pI, zx_R_pF, zx_I_pR, zx_I_eq, zx_I_ne, zx_I_ek, zx_R_eq, zx_R_ne, zx_R_ek, nI_clamp, zn_in, nI_add, zn_mul, nI_leI, nI_ltI, nI_eq, reduceIte, Nat.reduceLT, Nat.reduceMul, Nat.reducePow, zup_at, zvp_at, zn_z, zn_o, eq_self, or_true, true_or, or_false, false_or, zb_0, zb_1, zb_ik, zn_m, zn_rm, zn_sub, zn_div, not_false_eq_true, not_true_eq_false, forall_const, false_implies, implies_true, and_self, Bool.false_eq_true, Nat.reduceEqDiff, false_and, and_false, Nat.reduceSub, k0, k6, k7, q0, q1, h2, uq, g]
  refine cl_hasRoom (18 + 3 * s) (20 + 3 * s) n dd σ _ q1 q3' q5' hn (by omega) hdd ?_
  rw [if_pos ⟨hm, hn1⟩]
  simp (disch := omega) only [ze_SB_close_20, ze_SB_close_32, zt_ild, zt_ald, zt_ist, zt_ast, zt_inc, zt_psh, zt_nul, zt_bin, zt_div, zt_if, zt_cmp, zt_ifn, zt_dup, zt_du2, zt_pop, zt_gtI, zt_gtR, zt_ptI, zt_ptZ, zt_ptR, zt_xld, zt_rld, zt_ias, zt_zas, zt_ras, zt_len, zt_irt, zt_zrt, zt_art, zt_vrt, zt_cal, zt_cav, zt_cai, zt_cas, zt_dfl, zt_oin, zt_nwa, zt_nwo, zs_args, zs_rv, zs_fits, zs_c1, Value.category, List.getElem?_cons_zero, List.getElem?_cons_succ, List.set_cons_zero, List.set_cons_succ, List.length_nil, List.length_cons, beq_self_eq_true, Bool.and_self, Bool.and_true, true_and, and_true, Nat.add_zero, Nat.zero_add, Nat.le_refl, Nat.zero_le, Nat.reduceAdd, Nat.reduceLeDiff, Option.toList_some, Option.toList_none, List.nil_append, List.cons_append, zb_0, zb_1, zb_i0, zb_i1, zb_ij, ne_eq, Classical.not_not, zx_n_pI, zx_n_pR, zx_n_pF, zx_n_nw, zx_K_pI, zx_K_pR, zx_K_pF, zx_R_pI, zx_R_pF, zx_I_pR, zx_I_eq, zx_I_ne, zx_I_ek, zx_R_eq, zx_R_ne, zx_R_ek, nI_clamp, zn_in, nI_add, zn_mul, nI_leI, nI_ltI, nI_eq, reduceIte, Nat.reduceLT, Nat.reduceMul, Nat.reducePow, zup_at, zvp_at, zn_z, zn_o, eq_self, or_true, true_or, or_false, false_or, zb_0, zb_1, zb_ik, zn_m, zn_rm, zn_sub, zn_div, not_false_eq_true, not_true_eq_false, forall_const, false_implies, implies_true, and_self, Bool.false_eq_true, Nat.reduceEqDiff, false_and, and_false, Nat.reduceSub, k0, k3, k4, k6, k7, q0, q1, h2, cq, hu1]
  refine cl_makeSlot (18 + 3 * s) (19 + 3 * s) (20 + 3 * s) c n f σ _ q1 q2' q4' q3' q5' hc hc6 hn hn1 (fun i hi => ⟨(hf i hi).1, (hf i hi).2.1, (hf i hi).2.2.1⟩) ⟨by omega, by omega, by omega⟩ ?_
  have cK : ∀ w, w < zs_n σ → zs_K (cmk σ c f c) w = zs_K σ w := fun w hw => by rw [cmk_K, if_neg (by omega), if_neg (by omega), if_neg (by omega)]
  have cI : ∀ w q, w < zs_n σ → zs_I (cmk σ c f c) w q = zs_I σ w q := fun w q hw => by rw [cmk_I, if_neg (by omega)]
  have cR : ∀ w q, w < 40 + 8 * P → zs_R (cmk σ c f c) w q = zs_R σ w q := fun w q hw => by
    rw [cmk_R, if_neg (by omega), if_neg (by omega), if_neg (by omega), if_neg]
    rintro ⟨_, z⟩
    rw [List.any_eq_true] at z
    obtain ⟨i, y1, y2⟩ := z
    have y3 : w = f i := by simpa using y2
    have := (hf i (List.mem_range.mp y1)).2.2.2
    omega
  have w1 : zs_K (cmk σ c f c) (zs_n σ + 1) = (5, 0) := by rw [cmk_K, if_neg (by omega), if_pos rfl]
  have w2 : zs_K (cmk σ c f c) (zs_n σ + 2) = (101, 3) := by rw [cmk_K, if_neg (by omega), if_neg (by omega), if_pos rfl]
  have w3 : zs_R (cmk σ c f c) (zs_n σ + 1) 3 = some (zs_n σ + 2) := by rw [cmk_R, if_neg (by omega), if_pos rfl, if_neg (by decide), if_pos rfl]
  have w4 : ∀ q, zs_I (cmk σ c f c) (zs_n σ + 2) q = nI 0 := fun q => by rw [cmk_I, if_pos (by omega)]
  have w5 : ∀ q, zs_I (cmk σ c f c) (zs_n σ + 1) q = nI 0 := fun q => by rw [cmk_I, if_pos (by omega)]
  generalize cmk σ c f c = τ at *
  generalize hρ : zs_pI (zs_pR (zs_pI τ (18 + 3 * s) 1 (nI 0)) (20 + 3 * s) n (some (zs_n σ + 1))) (18 + 3 * s) 3 (nI (n + 1)) = ρ at *
  have rK : zs_K ρ = zs_K τ := by rw [← hρ]; rfl
  have rI : ∀ w q, ¬ (w = 18 + 3 * s ∧ (q = 1 ∨ q = 3)) → zs_I ρ w q = zs_I τ w q := fun w q z => by rw [← hρ, zx_I_pI, if_neg (by omega), zx_I_pR, zx_I_pI, if_neg (by omega)]
  have rR : ∀ w q, ¬ w = 20 + 3 * s → zs_R ρ w q = zs_R τ w q := fun w q z => by rw [← hρ, zx_R_pI, zx_R_ne _ _ _ _ z, zx_R_pI]
  have rn : zs_R ρ (20 + 3 * s) n = some (zs_n σ + 1) := by rw [← hρ, zx_R_pI, zx_R_eq]
  have hsρ : csb ρ P := csb_of (σ := σ) (fun w hw => by rw [rK, cK _ (by omega)]) (by rw [rI _ _ (by omega), cI _ _ (by omega)]) (fun w q hw => by rw [rR _ _ (by have := hw.2.2.2.1; have := hw.2.2.2.2.2.1; omega), cR _ _ hw.1]) hs'
  have k0' : zs_K ρ 0 = (7, 0) := hsρ.1
  simp (disch := omega) only [zt_ild, zt_ald, zt_ist, zt_ast, zt_inc, zt_psh, zt_nul, zt_bin, zt_div, zt_if, zt_cmp, zt_ifn, zt_dup, zt_du2, zt_pop, zt_gtI, zt_gtR, zt_ptI, zt_ptZ, zt_ptR, zt_xld, zt_rld, zt_ias, zt_zas, zt_ras, zt_len, zt_irt, zt_zrt, zt_art, zt_vrt, zt_cal, zt_cav, zt_cai, zt_cas, zt_dfl, zt_oin, zt_nwa, zt_nwo, zs_args, zs_rv, zs_fits, zs_c1, Value.category, List.getElem?_cons_zero, List.getElem?_cons_succ, List.set_cons_zero, List.set_cons_succ, List.length_nil, List.length_cons, beq_self_eq_true, Bool.and_self, Bool.and_true, true_and, and_true, Nat.add_zero, Nat.zero_add, Nat.le_refl, Nat.zero_le, Nat.reduceAdd, Nat.reduceLeDiff, Option.toList_some, Option.toList_none, List.nil_append, List.cons_append, zb_0, zb_1, zb_i0, zb_i1, zb_ij, ne_eq, Classical.not_not, zx_n_pI, zx_n_pR, zx_n_pF, zx_n_nw, zx_K_pI, zx_K_pR, zx_K_pF, zx_R_pI, zx_R_pF, zx_I_pR, zx_I_eq, zx_I_ne, zx_I_ek, zx_R_eq, zx_R_ne, zx_R_ek, nI_clamp, zn_in, nI_add, zn_mul, nI_leI, nI_ltI, nI_eq, reduceIte, Nat.reduceLT, Nat.reduceMul, Nat.reducePow, zup_at, zvp_at, zn_z, zn_o, eq_self, or_true, true_or, or_false, false_or, zb_0, zb_1, zb_ik, zn_m, zn_rm, zn_sub, zn_div, not_false_eq_true, not_true_eq_false, forall_const, false_implies, implies_true, and_self, Bool.false_eq_true, Nat.reduceEqDiff, false_and, and_false, Nat.reduceSub, k0']
  refine cl_sendStores P s n (zs_n σ + 1) (zs_n σ + 2) 0 v u (fun _ => 0) ρ _ hsρ h2 hn1 rn (by rw [rK]; exact w1) (by rw [rR _ _ (by omega)]; exact w3) (by rw [rK]; exact w2) (fun l _ => ⟨by rw [rI _ _ (by omega)]; exact w4 l, by decide⟩) (by rw [rI _ _ (by omega)]; exact w5 1) (by decide) (by rw [rI _ _ (by omega), cI _ _ (by omega)]; exact hv) (by rw [rI _ _ (by omega), cI _ _ (by omega)]; exact hu) (by omega) ?_
  simp (disch := omega) only [zt_ild, zt_ald, zt_ist, zt_ast, zt_inc, zt_psh, zt_nul, zt_bin, zt_div, zt_if, zt_cmp, zt_ifn, zt_dup, zt_du2, zt_pop, zt_gtI, zt_gtR, zt_ptI, zt_ptZ, zt_ptR, zt_xld, zt_rld, zt_ias, zt_zas, zt_ras, zt_len, zt_irt, zt_zrt, zt_art, zt_vrt, zt_cal, zt_cav, zt_cai, zt_cas, zt_dfl, zt_oin, zt_nwa, zt_nwo, zs_args, zs_rv, zs_fits, zs_c1, Value.category, List.getElem?_cons_zero, List.getElem?_cons_succ, List.set_cons_zero, List.set_cons_succ, List.length_nil, List.length_cons, beq_self_eq_true, Bool.and_self, Bool.and_true, true_and, and_true, Nat.add_zero, Nat.zero_add, Nat.le_refl, Nat.zero_le, Nat.reduceAdd, Nat.reduceLeDiff, Option.toList_some, Option.toList_none, List.nil_append, List.cons_append, zb_0, zb_1, zb_i0, zb_i1, zb_ij, ne_eq, Classical.not_not, zx_n_pI, zx_n_pR, zx_n_pF, zx_n_nw, zx_K_pI, zx_K_pR, zx_K_pF, zx_R_pI, zx_R_pF, zx_I_pR, zx_I_eq, zx_I_ne, zx_I_ek, zx_R_eq, zx_R_ne, zx_R_ek, nI_clamp, zn_in, nI_add, zn_mul, nI_leI, nI_ltI, nI_eq, reduceIte, Nat.reduceLT, Nat.reduceMul, Nat.reducePow, zup_at, zvp_at, zn_z, zn_o, eq_self, or_true, true_or, or_false, false_or, zb_0, zb_1, zb_ik, zn_m, zn_rm, zn_sub, zn_div, not_false_eq_true, not_true_eq_false, forall_const, false_implies, implies_true, and_self, Bool.false_eq_true, Nat.reduceEqDiff, false_and, and_false, Nat.reduceSub]
  exact h
