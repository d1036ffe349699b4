/-! The class: the constructor of a replica. -/
theorem zx_cnt {body : zs_P → zs_P} (L : Nat → List (Option Value)) (C S : Nat → Nat) (I : Nat → zs_S → Prop) (n : Nat) (hs : ∀ k, k < n → ∀ σ, I k σ → ∀ K : zs_P, (∀ τ, I (k + 1) τ → K (L (k + 1)) [] τ (C (k + 1)) (S (k + 1))) → body K (L k) [] σ (C k) (S k)) (he : ∀ σ, I n σ → ∀ K : zs_P, body K (L n) [] σ (C n) (S n)) (σ : zs_S) (h0 : I 0 σ) : zt_ex body (L 0) [] σ (C 0) (S 0) := by
  refine zx_lop (body := body) (fun m L' st' σ' c' s' => ∃ k, k ≤ n ∧ m = n - k ∧ L' = L k ∧ st' = [] ∧ c' = C k ∧ s' = S k ∧ I k σ') ?_ (k := n) ⟨0, Nat.zero_le _, by omega, rfl, rfl, rfl, rfl, h0⟩
  rintro m K L' st' σ' c' s' ⟨k, a1, a2, rfl, rfl, rfl, rfl, a3⟩ hK
  by_cases g : k = n
  · subst g; exact he σ' a3 K
  · exact hs k (by omega) σ' a3 K (fun τ hτ => hK (n - (k + 1)) _ _ _ _ _ (by omega) ⟨k + 1, by omega, rfl, rfl, rfl, rfl, rfl, hτ⟩)
theorem cold_trans {σ τ ρ : zs_S} {v m : Nat} (h1 : cold σ τ v) (h2 : cold τ ρ m) (hm : v ≤ m) : cold σ ρ v := fun w hw => by
  obtain ⟨a, b⟩ := h1 w hw
  obtain ⟨c, d⟩ := h2 w (by omega)
  exact ⟨c.trans a, fun q => ⟨(d q).1.trans (b q).1, (d q).2.trans (b q).2⟩⟩
def crh (σ : zs_S) (v P : Nat) : Prop := zs_K σ v = (3, 0) ∧ zs_R σ v 0 = some (v + 1) ∧ zs_R σ v 2 = some (v + 2) ∧ zs_R σ v 4 = some (v + 3) ∧ zs_R σ v 6 = some (v + 4) ∧ zs_R σ v 7 = some (v + 7) ∧ zs_R σ v 8 = some (v + 5) ∧ zs_R σ v 9 = some (v + 6) ∧ zs_K σ (v + 1) = (115, 40) ∧ zs_K σ (v + 2) = (116, 100) ∧ zs_K σ (v + 3) = (100, 12) ∧ zs_K σ (v + 4) = (100, 12) ∧ zs_K σ (v + 5) = (100, 100) ∧ zs_K σ (v + 6) = (100, 100) ∧ zs_K σ (v + 7) = (111, P) ∧ zs_I σ v 1 = nI 0 ∧ zs_I σ v 3 = nI 0 ∧ zs_I σ v 5 = nI 0 ∧ czR σ (v + 1) ∧ czI σ (v + 5) ∧ czI σ (v + 6)
theorem crh_of {σ τ : zs_S} {v P : Nat} (hK : ∀ w, w < v + 8 → zs_K τ w = zs_K σ w) (hI : ∀ w q, (w = v ∨ w = v + 5 ∨ w = v + 6) → zs_I τ w q = zs_I σ w q) (hR : ∀ q, zs_R τ v q = zs_R σ v q) (hR1 : ∀ q, zs_R τ (v + 1) q = zs_R σ (v + 1) q) (h : crh σ v P) : crh τ v P := by
  obtain ⟨s1, s2, s3, s4, s5, s6, s7, s8, s9, s10, s11, s12, s13, s14, s15, s16, s17, s18, s19, s20, s21⟩ := h
  exact ⟨by rw [hK _ (by omega)]; exact s1, by rw [hR]; exact s2, by rw [hR]; exact s3, by rw [hR]; exact s4, by rw [hR]; exact s5, by rw [hR]; exact s6, by rw [hR]; exact s7, by rw [hR]; exact s8, by rw [hK _ (by omega)]; exact s9, by rw [hK _ (by omega)]; exact s10, by rw [hK _ (by omega)]; exact s11, by rw [hK _ (by omega)]; exact s12, by rw [hK _ (by omega)]; exact s13, by rw [hK _ (by omega)]; exact s14, by rw [hK _ (by omega)]; exact s15, by rw [hI _ _ (by omega)]; exact s16, by rw [hI _ _ (by omega)]; exact s17, by rw [hI _ _ (by omega)]; exact s18, fun q => by rw [hR1]; exact s19 q, fun q => by rw [hI _ _ (by omega)]; exact s20 q, fun q => by rw [hI _ _ (by omega)]; exact s21 q⟩
def crq (σ : zs_S) (v P p : Nat) : Prop := zs_R σ (v + 7) p = some (v + 8 + 4 * p) ∧ cpt σ (v + 8 + 4 * p) (v + 9 + 4 * p) (v + 10 + 4 * p) (v + 11 + 4 * p) ∧ zs_I σ (v + 8 + 4 * p) 0 = cky P p 12 ∧ zs_I σ (v + 8 + 4 * p) 1 = nI 0 ∧ zs_I σ (v + 8 + 4 * p) 4 = nI 0 ∧ czI σ (v + 11 + 4 * p)
theorem crq_of {σ τ : zs_S} {v P p : Nat} (hK : ∀ w, w < v + 12 + 4 * p → zs_K τ w = zs_K σ w) (hI : ∀ w q, v + 8 ≤ w → w < v + 12 + 4 * p → zs_I τ w q = zs_I σ w q) (hR : ∀ q, zs_R τ (v + 8 + 4 * p) q = zs_R σ (v + 8 + 4 * p) q) (h7 : zs_R τ (v + 7) p = zs_R σ (v + 7) p) (h : crq σ v P p) : crq τ v P p := by
  obtain ⟨a1, ⟨b1, b2, b3, b4, b5, b6, b7, b8⟩, a3, a4, a5, a6⟩ := h
  exact ⟨by rw [h7]; exact a1, ⟨by rw [hK _ (by omega)]; exact b1, by rw [hR]; exact b2, by rw [hR]; exact b3, by rw [hR]; exact b4, by rw [hK _ (by omega)]; exact b5, by rw [hK _ (by omega)]; exact b6, by rw [hK _ (by omega)]; exact b7, b8⟩, by rw [hI _ _ (by omega) (by omega)]; exact a3, by rw [hI _ _ (by omega) (by omega)]; exact a4, by rw [hI _ _ (by omega) (by omega)]; exact a5, fun q => by rw [hI _ _ (by omega) (by omega)]; exact a6 q⟩
/-- the first k values of a replica and of its checkpoint are set -/
def cvs (σ : zs_S) (v k : Nat) : zs_S := (zs_n σ, zs_K σ, fun w q => if (w = v + 3 ∨ w = v + 4) ∧ q < k then nI 100 else zs_I σ w q, zs_R σ)
theorem cvs_I (σ : zs_S) (v k w q : Nat) : zs_I (cvs σ v k) w q = if (w = v + 3 ∨ w = v + 4) ∧ q < k then nI 100 else zs_I σ w q := rfl
theorem cl_Rp_init (v P : Nat) (σ : zs_S) (Q : zs_Q) (hv : zs_K σ v = (3, 0)) (hn : zs_n σ = v + 1) (hP : P ≤ 4) (hP0 : 0 < P) (h : ∀ τ, zs_n τ = v + 8 + 4 * P → cold σ τ v → crh τ v P → (∀ p, p < P → crq τ v P p) → (∀ q, q < 12 → zs_I τ (v + 3) q = nI 100 ∧ zs_I τ (v + 4) q = nI 100) → Q none τ) : zw_Rp_init [.ref v, .int (nI P)] σ Q := by
  have m1 : ¬ v = v + 1 := by omega
  have m2 : ¬ v = v + 1 + 1 := by omega
  have m3 : ¬ v = v + 1 + 1 + 1 := by omega
  have m4 : ¬ v = v + 1 + 1 + 1 + 1 := by omega
  have m5 : ¬ v = v + 1 + 1 + 1 + 1 + 1 := by omega
  have m6 : ¬ v = v + 1 + 1 + 1 + 1 + 1 + 1 := by omega
  have m7 : ¬ v = v + 1 + 1 + 1 + 1 + 1 + 1 + 1 := by omega
  have e1 : P ≤ 4000 := by omega
  have e2 : 364 + P ≤ 900 := by omega
  simp (disch := omega) only [zw_Rp_init, ze_Rp_init_0, zt_ild, zt_ald, zt_ist, zt_ast, zt_inc, zt_psh, zt_nul, zt_bin, zt_div, zt_if, zt_cmp, zt_ifn, zt_dup, zt_du2, zt_pop, zt_gtI, zt_gtR, zt_ptI, zt_ptZ, zt_ptR, zt_xld, zt_rld, zt_ias, zt_zas, zt_ras, zt_len, zt_irt, zt_zrt, zt_art, zt_vrt, zt_cal, zt_cav, zt_cai, zt_cas, zt_dfl, zt_oin, zt_nwa, zt_nwo, zs_args, zs_rv, zs_fits, zs_c1, Value.category, List.getElem?_cons_zero, List.getElem?_cons_succ, List.set_cons_zero, List.set_cons_succ, List.length_nil, List.length_cons, beq_self_eq_true, Bool.and_self, Bool.and_true, true_and, and_true, Nat.add_zero, Nat.zero_add, Nat.le_refl, Nat.zero_le, Nat.reduceAdd, Nat.reduceLeDiff, Option.toList_some, Option.toList_none, List.nil_append, List.cons_append, zb_0, zb_1, zb_i0, zb_i1, zb_ij, ne_eq, Classical.not_not, zx_n_pI, zx_n_pR, zx_n_pF, zx_n_nw, zx_K_pI, zx_K_pR, zx_K_pF, zx_R_pI, zx_R_pF, zx_I_pR, zx_I_eq, zx_I_ne, zx_I_ek, zx_R_eq, zx_R_ne, zx_R_ek, nI_clamp, zn_in, nI_add, zn_mul, nI_leI, nI_ltI, nI_eq, reduceIte, Nat.reduceLT, Nat.reduceMul, Nat.reducePow, zup_at, zvp_at, zn_z, zn_o, eq_self, or_true, true_or, or_false, false_or, zb_0, zb_1, zb_ik, zn_m, zn_rm, zn_sub, zn_div, not_false_eq_true, not_true_eq_false, forall_const, false_implies, implies_true, and_self, Bool.false_eq_true, Nat.reduceEqDiff, false_and, and_false, Nat.reduceSub, hv, hn, zx_K_nw, zneg, m1, m2, m3, m4, m5, m6, m7, if_false, Nat.not_lt_zero, e1, e2]
  have fin : ∀ τ, zs_n τ = v + 8 → cold σ τ v → crh τ v P → zl_Rp_init_79 Q [some (.ref v), some (.int (nI P)), some (.int (nI 0))] [] τ 7 (364 + P) := by
    intro τ0 x1 x2 x3
    have hz := zx_cnt (body := zb_Rp_init_79 Q) (fun k => [some (.ref v), some (.int (nI P)), some (.int (nI k))]) (fun k => 7 + 4 * k) (fun k => 364 + P + 126 * k) (fun k τ => zs_n τ = v + 8 + 4 * k ∧ cold σ τ v ∧ crh τ v P ∧ ∀ p, p < k → crq τ v P p) P ?_ ?_ τ0 ⟨x1, x2, x3, fun p hp => absurd hp (Nat.not_lt_zero p)⟩
    · exact hz
    · rintro k hk τ ⟨y1, y2, y3, y4⟩ K hK
      have e3 : ¬ P ≤ k := by omega
      have r7 : zs_R τ v 7 = some (v + 7) := y3.2.2.2.2.2.1
      have kv : zs_K τ v = (3, 0) := y3.1
      have f1 : 7 + 4 * k + 1 ≤ 24 := by omega
      have f2 : 364 + P + 126 * k + 6 ≤ 900 := by omega
      have f3 : 7 + 4 * k + 1 + 3 ≤ 24 := by omega
      have f4 : 364 + P + 126 * k + 6 + 120 ≤ 900 := by omega
      have kn : zs_K (zs_nw τ (1, 0)) (v + 8 + 4 * k) = (1, 0) := by rw [zx_K_nw, if_pos y1.symm]
      have c0 : cold τ (zs_nw τ (1, 0)) (v + 8 + 4 * k) := cold_nw _ (cold_rfl τ _) (by omega)
      try dsimp only at hK ⊢
      simp (disch := omega) only [ze_Rp_init_79, ze_Rp_init_84, zt_ild, zt_ald, zt_ist, zt_ast, zt_inc, zt_psh, zt_nul, zt_bin, zt_div, zt_if, zt_cmp, zt_ifn, zt_dup, zt_du2, zt_pop, zt_gtI, zt_gtR, zt_ptI, zt_ptZ, zt_ptR, zt_xld, zt_rld, zt_ias, zt_zas, zt_ras, zt_len, zt_irt, zt_zrt, zt_art, zt_vrt, zt_cal, zt_cav, zt_cai, zt_cas, zt_dfl, zt_oin, zt_nwa, zt_nwo, zs_args, zs_rv, zs_fits, zs_c1, Value.category, List.getElem?_cons_zero, List.getElem?_cons_succ, List.set_cons_zero, List.set_cons_succ, List.length_nil, List.length_cons, beq_self_eq_true, Bool.and_self, Bool.and_true, true_and, and_true, Nat.add_zero, Nat.zero_add, Nat.le_refl, Nat.zero_le, Nat.reduceAdd, Nat.reduceLeDiff, Option.toList_some, Option.toList_none, List.nil_append, List.cons_append, zb_0, zb_1, zb_i0, zb_i1, zb_ij, ne_eq, Classical.not_not, zx_n_pI, zx_n_pR, zx_n_pF, zx_n_nw, zx_K_pI, zx_K_pR, zx_K_pF, zx_R_pI, zx_R_pF, zx_I_pR, zx_I_eq, zx_I_ne, zx_I_ek, zx_R_eq, zx_R_ne, zx_R_ek, nI_clamp, zn_in, nI_add, zn_mul, nI_leI, nI_ltI, nI_eq, reduceIte, Nat.reduceLT, Nat.reduceMul, Nat.reducePow, zup_at, zvp_at, zn_z, zn_o, eq_self, or_true, true_or, or_false, false_or, zb_0, zb_1, zb_ik, zn_m, zn_rm, zn_sub, zn_div, not_false_eq_true, not_true_eq_false, forall_const, false_implies, implies_true, and_self, Bool.false_eq_true, Nat.reduceEqDiff, false_and, and_false, Nat.reduceSub, kv, r7, e3, y1, kn, f1, f2, f3, f4]
      refine cl_Pa_init (v + 8 + 4 * k) P k (zs_nw τ (1, 0)) _ kn (by rw [zx_n_nw, y1]) hP hP0 hk ?_
      intro ρ z1 z2 z3 z4 z5 z6 z7
      have c1 : cold τ ρ (v + 8 + 4 * k) := cold_trans c0 z2 (Nat.le_refl _)
      have kr7 : zs_K ρ (v + 7) = (111, P) := by rw [(c1 (v + 7) (by omega)).1]; exact y3.2.2.2.2.2.2.2.2.2.2.2.2.2.2.1
      have kp := z3.1
      have f5 : 7 + 4 * k + 1 + 3 = 7 + 4 * (k + 1) := by omega
      have f6 : 364 + P + 126 * k + 6 + 120 = 364 + P + 126 * (k + 1) := by omega
      simp (disch := omega) only [zt_ild, zt_ald, zt_ist, zt_ast, zt_inc, zt_psh, zt_nul, zt_bin, zt_div, zt_if, zt_cmp, zt_ifn, zt_dup, zt_du2, zt_pop, zt_gtI, zt_gtR, zt_ptI, zt_ptZ, zt_ptR, zt_xld, zt_rld, zt_ias, zt_zas, zt_ras, zt_len, zt_irt, zt_zrt, zt_art, zt_vrt, zt_cal, zt_cav, zt_cai, zt_cas, zt_dfl, zt_oin, zt_nwa, zt_nwo, zs_args, zs_rv, zs_fits, zs_c1, Value.category, List.getElem?_cons_zero, List.getElem?_cons_succ, List.set_cons_zero, List.set_cons_succ, List.length_nil, List.length_cons, beq_self_eq_true, Bool.and_self, Bool.and_true, true_and, and_true, Nat.add_zero, Nat.zero_add, Nat.le_refl, Nat.zero_le, Nat.reduceAdd, Nat.reduceLeDiff, Option.toList_some, Option.toList_none, List.nil_append, List.cons_append, zb_0, zb_1, zb_i0, zb_i1, zb_ij, ne_eq, Classical.not_not, zx_n_pI, zx_n_pR, zx_n_pF, zx_n_nw, zx_K_pI, zx_K_pR, zx_K_pF, zx_R_pI, zx_R_pF, zx_I_pR, zx_I_eq, zx_I_ne, zx_I_ek, zx_R_eq, zx_R_ne, zx_R_ek, nI_clamp, zn_in, nI_add, zn_mul, nI_leI, nI_ltI, nI_eq, reduceIte, Nat.reduceLT, Nat.reduceMul, Nat.reducePow, zup_at, zvp_at, zn_z, zn_o, eq_self, or_true, true_or, or_false, false_or, zb_0, zb_1, zb_ik, zn_m, zn_rm, zn_sub, zn_div, not_false_eq_true, not_true_eq_false, forall_const, false_implies, implies_true, and_self, Bool.false_eq_true, Nat.reduceEqDiff, false_and, and_false, Nat.reduceSub, kr7, hk, kp, f5, f6]
      refine hK _ ⟨by rw [zx_n_pR, z1]; omega, cold_pR _ _ _ (cold_trans y2 c1 (by omega)) (by omega), ?_, ?_⟩
      · exact crh_of (σ := τ) (fun w hw => (c1 w (by omega)).1) (fun w q hw => ((c1 w (by omega)).2 q).1) (fun q => by rw [zx_R_ne _ _ _ _ (by omega)]; exact ((c1 v (by omega)).2 q).2) (fun q => by rw [zx_R_ne _ _ _ _ (by omega)]; exact ((c1 (v + 1) (by omega)).2 q).2) y3
      · intro p hp
        by_cases gp : p = k
        · subst gp
          refine ⟨by rw [zx_R_eq], ?_, z4, z5, z6, fun q => by rw [show v + 11 + 4 * p = v + 8 + 4 * p + 3 by omega]; exact z7 q⟩
          have e9 : v + 8 + 4 * p + 1 = v + 9 + 4 * p := by omega
          have e10 : v + 8 + 4 * p + 2 = v + 10 + 4 * p := by omega
          have e11 : v + 8 + 4 * p + 3 = v + 11 + 4 * p := by omega
          rw [e9, e10, e11] at z3
          exact cpt_of (σ := ρ) rfl (fun q => by rw [zx_R_ne _ _ _ _ (by omega)]) z3
        · refine crq_of (σ := τ) (fun w hw => (c1 w (by omega)).1) (fun w q _ hw => ((c1 w (by omega)).2 q).1) (fun q => by rw [zx_R_ne _ _ _ _ (by omega)]; exact ((c1 _ (by omega)).2 q).2) (by rw [zx_R_ek _ _ _ _ _ gp]; exact ((c1 _ (by omega)).2 p).2) (y4 p (by omega))
    · rintro τ ⟨y1, y2, y3, y4⟩ K
      have kv : zs_K τ v = (3, 0) := y3.1
      have r4 : zs_R τ v 4 = some (v + 3) := y3.2.2.2.1
      have r6 : zs_R τ v 6 = some (v + 4) := y3.2.2.2.2.1
      have k3 : zs_K τ (v + 3) = (100, 12) := y3.2.2.2.2.2.2.2.2.2.2.1
      have k4 : zs_K τ (v + 4) = (100, 12) := y3.2.2.2.2.2.2.2.2.2.2.2.1
      try dsimp only
      simp (disch := omega) only [ze_Rp_init_79, ze_Rp_init_105, zt_ild, zt_ald, zt_ist, zt_ast, zt_inc, zt_psh, zt_nul, zt_bin, zt_div, zt_if, zt_cmp, zt_ifn, zt_dup, zt_du2, zt_pop, zt_gtI, zt_gtR, zt_ptI, zt_ptZ, zt_ptR, zt_xld, zt_rld, zt_ias, zt_zas, zt_ras, zt_len, zt_irt, zt_zrt, zt_art, zt_vrt, zt_cal, zt_cav, zt_cai, zt_cas, zt_dfl, zt_oin, zt_nwa, zt_nwo, zs_args, zs_rv, zs_fits, zs_c1, Value.category, List.getElem?_cons_zero, List.getElem?_cons_succ, List.set_cons_zero, List.set_cons_succ, List.length_nil, List.length_cons, beq_self_eq_true, Bool.and_self, Bool.and_true, true_and, and_true, Nat.add_zero, Nat.zero_add, Nat.le_refl, Nat.zero_le, Nat.reduceAdd, Nat.reduceLeDiff, Option.toList_some, Option.toList_none, List.nil_append, List.cons_append, zb_0, zb_1, zb_i0, zb_i1, zb_ij, ne_eq, Classical.not_not, zx_n_pI, zx_n_pR, zx_n_pF, zx_n_nw, zx_K_pI, zx_K_pR, zx_K_pF, zx_R_pI, zx_R_pF, zx_I_pR, zx_I_eq, zx_I_ne, zx_I_ek, zx_R_eq, zx_R_ne, zx_R_ek, nI_clamp, zn_in, nI_add, zn_mul, nI_leI, nI_ltI, nI_eq, reduceIte, Nat.reduceLT, Nat.reduceMul, Nat.reducePow, zup_at, zvp_at, zn_z, zn_o, eq_self, or_true, true_or, or_false, false_or, zb_0, zb_1, zb_ik, zn_m, zn_rm, zn_sub, zn_div, not_false_eq_true, not_true_eq_false, forall_const, false_implies, implies_true, and_self, Bool.false_eq_true, Nat.reduceEqDiff, false_and, and_false, Nat.reduceSub]
      have hz := zx_for (body := zb_Rp_init_107 Q) (c := 7 + 4 * P) (s := 364 + P + 126 * P) (fun k => [some (.ref v), some (.int (nI P)), some (.int (nI k))]) (fun k => cvs τ v k) 12 0 ?_ ?_ (Nat.zero_le _)
      · have e0 : cvs τ v 0 = τ := by
          refine zs_ext rfl rfl (fun w q => ?_) (fun w q => rfl)
          rw [cvs_I, if_neg (by omega)]
        rw [e0] at hz
        exact hz
      · intro k _ hk K hK
        have e4 : ¬ 12 ≤ k := by omega
        have cK : zs_K (cvs τ v k) = zs_K τ := rfl
        have cR : zs_R (cvs τ v k) = zs_R τ := rfl
        have st : zs_pI (zs_pI (cvs τ v k) (v + 3) k (nI 100)) (v + 4) k (nI 100) = cvs τ v (k + 1) := by
          refine zs_ext rfl rfl (fun w q => ?_) (fun w q => rfl)
          rw [zx_I_pI, zx_I_pI, cvs_I, cvs_I]
          by_cases g4 : w = v + 4 ∧ q = k
          · rw [if_pos g4, if_pos (by omega)]
          · rw [if_neg g4]
            by_cases g3 : w = v + 3 ∧ q = k
            · rw [if_pos g3, if_pos (by omega)]
            · rw [if_neg g3]
              have i : ((w = v + 3 ∨ w = v + 4) ∧ q < k + 1) ↔ ((w = v + 3 ∨ w = v + 4) ∧ q < k) := by omega
              simp only [i]
        simp (disch := omega) only [ze_Rp_init_107, ze_Rp_init_113, zt_ild, zt_ald, zt_ist, zt_ast, zt_inc, zt_psh, zt_nul, zt_bin, zt_div, zt_if, zt_cmp, zt_ifn, zt_dup, zt_du2, zt_pop, zt_gtI, zt_gtR, zt_ptI, zt_ptZ, zt_ptR, zt_xld, zt_rld, zt_ias, zt_zas, zt_ras, zt_len, zt_irt, zt_zrt, zt_art, zt_vrt, zt_cal, zt_cav, zt_cai, zt_cas, zt_dfl, zt_oin, zt_nwa, zt_nwo, zs_args, zs_rv, zs_fits, zs_c1, Value.category, List.getElem?_cons_zero, List.getElem?_cons_succ, List.set_cons_zero, List.set_cons_succ, List.length_nil, List.length_cons, beq_self_eq_true, Bool.and_self, Bool.and_true, true_and, and_true, Nat.add_zero, Nat.zero_add, Nat.le_refl, Nat.zero_le, Nat.reduceAdd, Nat.reduceLeDiff, Option.toList_some, Option.toList_none, List.nil_append, List.cons_append, zb_0, zb_1, zb_i0, zb_i1, zb_ij, ne_eq, Classical.not_not, zx_n_pI, zx_n_pR, zx_n_pF, zx_n_nw, zx_K_pI, zx_K_pR, zx_K_pF, zx_R_pI, zx_R_pF, zx_I_pR, zx_I_eq, zx_I_ne, zx_I_ek, zx_R_eq, zx_R_ne, zx_R_ek, nI_clamp, zn_in, nI_add, zn_mul, nI_leI, nI_ltI, nI_eq, reduceIte, Nat.reduceLT, Nat.reduceMul, Nat.reducePow, zup_at, zvp_at, zn_z, zn_o, eq_self, or_true, true_or, or_false, false_or, zb_0, zb_1, zb_ik, zn_m, zn_rm, zn_sub, zn_div, not_false_eq_true, not_true_eq_false, forall_const, false_implies, implies_true, and_self, Bool.false_eq_true, Nat.reduceEqDiff, false_and, and_false, Nat.reduceSub, cK, cR, kv, r4, r6, k3, k4, e4, hk, st]
        exact hK
      · intro K
        have f1 : 7 + 4 * P ≤ 24 := by omega
        have f2 : 364 + P + 126 * P ≤ 900 := by omega
        simp (disch := omega) only [ze_Rp_init_107, ze_Rp_init_135, zt_ild, zt_ald, zt_ist, zt_ast, zt_inc, zt_psh, zt_nul, zt_bin, zt_div, zt_if, zt_cmp, zt_ifn, zt_dup, zt_du2, zt_pop, zt_gtI, zt_gtR, zt_ptI, zt_ptZ, zt_ptR, zt_xld, zt_rld, zt_ias, zt_zas, zt_ras, zt_len, zt_irt, zt_zrt, zt_art, zt_vrt, zt_cal, zt_cav, zt_cai, zt_cas, zt_dfl, zt_oin, zt_nwa, zt_nwo, zs_args, zs_rv, zs_fits, zs_c1, Value.category, List.getElem?_cons_zero, List.getElem?_cons_succ, List.set_cons_zero, List.set_cons_succ, List.length_nil, List.length_cons, beq_self_eq_true, Bool.and_self, Bool.and_true, true_and, and_true, Nat.add_zero, Nat.zero_add, Nat.le_refl, Nat.zero_le, Nat.reduceAdd, Nat.reduceLeDiff, Option.toList_some, Option.toList_none, List.nil_append, List.cons_append, zb_0, zb_1, zb_i0, zb_i1, zb_ij, ne_eq, Classical.not_not, zx_n_pI, zx_n_pR, zx_n_pF, zx_n_nw, zx_K_pI, zx_K_pR, zx_K_pF, zx_R_pI, zx_R_pF, zx_I_pR, zx_I_eq, zx_I_ne, zx_I_ek, zx_R_eq, zx_R_ne, zx_R_ek, nI_clamp, zn_in, nI_add, zn_mul, nI_leI, nI_ltI, nI_eq, reduceIte, Nat.reduceLT, Nat.reduceMul, Nat.reducePow, zup_at, zvp_at, zn_z, zn_o, eq_self, or_true, true_or, or_false, false_or, zb_0, zb_1, zb_ik, zn_m, zn_rm, zn_sub, zn_div, not_false_eq_true, not_true_eq_false, forall_const, false_implies, implies_true, and_self, Bool.false_eq_true, Nat.reduceEqDiff, false_and, and_false, Nat.reduceSub, f1, f2]
        have cI : ∀ w q, ¬ w = v + 3 → ¬ w = v + 4 → zs_I (cvs τ v 12) w q = zs_I τ w q := fun w q z1 z2 => by rw [cvs_I, if_neg (by omega)]
        refine h (cvs τ v 12) y1 (fun w hw => ⟨(y2 w hw).1, fun q => ⟨by rw [cI _ _ (by omega) (by omega)]; exact ((y2 w hw).2 q).1, ((y2 w hw).2 q).2⟩⟩) (crh_of (σ := τ) (fun _ _ => rfl) (fun w q hw => cI _ _ (by omega) (by omega)) (fun _ => rfl) (fun _ => rfl) y3) (fun p hp => crq_of (σ := τ) (fun _ _ => rfl) (fun w q z1 _ => cI _ _ (by omega) (by omega)) (fun _ => rfl) rfl (y4 p hp)) (fun q hq => ⟨by rw [cvs_I, if_pos (by omega)], by rw [cvs_I, if_pos (by omega)]⟩)
  refine fin _ ?_ ?_ ?_
  · simp only [zx_n_pI, zx_n_pR, zx_n_nw, hn]
  · have nn : ∀ τ : zs_S, v ≤ zs_n τ → cold σ τ v → ∀ q, cold σ (zs_nw τ q) v := fun τ a b q => cold_nw q b a
    refine cold_pR _ _ _ (cold_nw _ (cold_pR _ _ _ (cold_nw _ (cold_pR _ _ _ (cold_nw _ (cold_pR _ _ _ (cold_nw _ (cold_pI _ _ _ (cold_pR _ _ _ (cold_nw _ (cold_pI _ _ _ (cold_pR _ _ _ (cold_nw _ (cold_pI _ _ _ (cold_pR _ _ _ (cold_nw _ (cold_rfl σ v) ?_) ?_) ?_) ?_) ?_) ?_) ?_) ?_) ?_) ?_) ?_) ?_) ?_) ?_) ?_) ?_) ?_ <;> first | omega | (simp only [zx_n_pI, zx_n_pR, zx_n_nw]; omega)
  · refine ⟨?_, ?_, ?_, ?_, ?_, ?_, ?_, ?_, ?_, ?_, ?_, ?_, ?_, ?_, ?_, ?_, ?_, ?_, ?_, ?_, ?_⟩
    all_goals try (intro q)
    all_goals simp (disch := omega) only [zt_ild, zt_ald, zt_ist, zt_ast, zt_inc, zt_psh, zt_nul, zt_bin, zt_div, zt_if, zt_cmp, zt_ifn, zt_dup, zt_du2, zt_pop, zt_gtI, zt_gtR, zt_ptI, zt_ptZ, zt_ptR, zt_xld, zt_rld, zt_ias, zt_zas, zt_ras, zt_len, zt_irt, zt_zrt, zt_art, zt_vrt, zt_cal, zt_cav, zt_cai, zt_cas, zt_dfl, zt_oin, zt_nwa, zt_nwo, zs_args, zs_rv, zs_fits, zs_c1, Value.category, List.getElem?_cons_zero, List.getElem?_cons_succ, List.set_cons_zero, List.set_cons_succ, List.length_nil, List.length_cons, beq_self_eq_true, Bool.and_self, Bool.and_true, true_and, and_true, Nat.add_zero, Nat.zero_add, Nat.le_refl, Nat.zero_le, Nat.reduceAdd, Nat.reduceLeDiff, Option.toList_some, Option.toList_none, List.nil_append, List.cons_append, zb_0, zb_1, zb_i0, zb_i1, zb_ij, ne_eq, Classical.not_not, zx_n_pI, zx_n_pR, zx_n_pF, zx_n_nw, zx_K_pI, zx_K_pR, zx_K_pF, zx_R_pI, zx_R_pF, zx_I_pR, zx_I_eq, zx_I_ne, zx_I_ek, zx_R_eq, zx_R_ne, zx_R_ek, nI_clamp, zn_in, nI_add, zn_mul, nI_leI, nI_ltI, nI_eq, reduceIte, Nat.reduceLT, Nat.reduceMul, Nat.reducePow, zup_at, zvp_at, zn_z, zn_o, eq_self, or_true, true_or, or_false, false_or, zb_0, zb_1, zb_ik, zn_m, zn_rm, zn_sub, zn_div, not_false_eq_true, not_true_eq_false, forall_const, false_implies, implies_true, and_self, Bool.false_eq_true, Nat.reduceEqDiff, false_and, and_false, Nat.reduceSub, zx_K_nw, zx_R_nw, zx_I_nw, hn, hv, m1, m2, m3, m4, m5, m6, m7, if_false, if_true]
    all_goals try simp
    all_goals try omega
    all_goals try rfl
