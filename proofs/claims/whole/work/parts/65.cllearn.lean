/-! The class: replicas learn, write, finish. -/
theorem cpt_of {σ τ : zs_S} {v uf lk rc : Nat} (hK : zs_K τ = zs_K σ) (hR : ∀ q, zs_R τ v q = zs_R σ v q) (h : cpt σ v uf lk rc) : cpt τ v uf lk rc := by
  unfold cpt at h ⊢
  rw [hK, hR, hR, hR]
  exact h
theorem crp_of {σ τ : zs_S} {v P : Nat} (hK : zs_K τ = zs_K σ) (hR : ∀ w q, (w = v ∨ w = v + 7 ∨ ∃ p, p < P ∧ w = v + 8 + 4 * p) → zs_R τ w q = zs_R σ w q) (h : crp σ v P) : crp τ v P := by
  obtain ⟨s1, s2, s3, s4, s5, s6, s7, s8, s9, s10, s11, s12, s13, s14, s15, s16⟩ := h
  have r := fun q => hR v q (Or.inl rfl)
  refine ⟨by rw [hK]; exact s1, by rw [r]; exact s2, by rw [r]; exact s3, by rw [r]; exact s4, by rw [r]; exact s5, by rw [r]; exact s6, by rw [r]; exact s7, by rw [r]; exact s8, by rw [hK]; exact s9, by rw [hK]; exact s10, by rw [hK]; exact s11, by rw [hK]; exact s12, by rw [hK]; exact s13, by rw [hK]; exact s14, by rw [hK]; exact s15, fun p hp => ?_⟩
  obtain ⟨a, b⟩ := s16 p hp
  exact ⟨by rw [hR _ _ (Or.inr (Or.inl rfl))]; exact a, cpt_of hK (fun q => hR _ q (Or.inr (Or.inr ⟨p, hp, rfl⟩))) b⟩
def ccat (e : Nat → Nat) (L : Nat → List Nat) (s0 : Nat) : Nat → List Nat
  | 0 => []
  | m + 1 => ccat e L s0 m ++ (if e (s0 + m) = 0 then L (s0 + m) else [])
theorem ccat_le (e : Nat → Nat) (L : Nat → List Nat) (s0 : Nat) {m k : Nat} (h : m ≤ k) : (ccat e L s0 m).length ≤ (ccat e L s0 k).length := by
  induction k with
  | zero => rw [Nat.le_zero.mp h]; exact Nat.le_refl _
  | succ k ih =>
    by_cases e1 : m = k + 1
    · rw [e1]; exact Nat.le_refl _
    · have := ih (by omega)
      show _ ≤ (ccat e L s0 k ++ _).length
      rw [List.length_append]
      omega
theorem zs_pI_same (σ : zs_S) (v k : Nat) (x : Int32) (h : zs_I σ v k = x) : zs_pI σ v k x = σ := by
  refine zs_ext rfl rfl (fun w q => ?_) (fun w q => rfl)
  rw [zx_I_pI]
  by_cases g : w = v ∧ q = k
  · obtain ⟨rfl, rfl⟩ := g; rw [if_pos ⟨rfl, rfl⟩, h]
  · rw [if_neg g]
theorem csl_of {σ τ : zs_S} {w e o : Nat} {L : List Nat} (hK : zs_K τ = zs_K σ) (hI : zs_I τ w 1 = zs_I σ w 1) (h0 : zs_R τ w 0 = zs_R σ w 0) (ho : ∀ i, zs_R τ o i = zs_R σ o i) (h : csl σ w e o L) : csl τ w e o L := by
  obtain ⟨l1, l2, l3, l4, l5, l6⟩ := h
  exact ⟨by rw [hK]; exact l1, by rw [hI]; exact l2, l3, by rw [h0]; exact l4, by rw [hK]; exact l5, fun i t z => ⟨by rw [ho]; exact (l6 i t z).1, by rw [hK]; exact (l6 i t z).2⟩⟩
theorem cl_learn (v P n s0 m pl w0 : Nat) (w e o : Nat → Nat) (L : Nat → List Nat) (σ : zs_S) (Q : zs_Q) (hs : crp σ v P) (hpl : pl < 40) (hw0 : zs_K σ w0 = (5, 0)) (hn : zs_I σ v 3 = nI n) (hs0 : zs_I σ v 1 = nI s0) (hm : s0 + m ≤ 40)
    (hk : ∀ q, q < m → zs_R (zs_pR σ (v + 1) pl (some w0)) (v + 1) (s0 + q) = some (w (s0 + q)) ∧ csl σ (w (s0 + q)) (e (s0 + q)) (o (s0 + q)) (L (s0 + q)) ∧ ¬ w (s0 + q) = v ∧ ¬ w (s0 + q) = v + 2 ∧ ¬ o (s0 + q) = v + 2 ∧ ¬ w (s0 + q) = v + 1 ∧ ¬ o (s0 + q) = v + 1)
    (hend : s0 + m = 40 ∨ zs_R (zs_pR σ (v + 1) pl (some w0)) (v + 1) (s0 + m) = none) (hlen : n + (ccat e L s0 m).length ≤ 100)
    (h : Q none (zs_pI (capl (zs_pR σ (v + 1) pl (some w0)) v n (ccat e L s0 m)) v 1 (nI (s0 + m)))) : zw_Rp_learn [.ref v, .int (nI pl), .ref w0] σ Q := by
  have hs' := hs
  obtain ⟨s1, s2, s3, s4, s5, s6, s7, s8, s9, s10, s11, s12, s13, s14, s15, s16⟩ := hs
  simp (disch := omega) only [zw_Rp_learn, ze_Rp_learn_0, ze_Rp_learn_7, ze_Rp_learn_19, ze_Rp_learn_31, ze_Rp_learn_57, zt_ild, zt_ald, zt_ist, zt_ast, zt_inc, zt_psh, zt_nul, zt_bin, zt_div, zt_if, zt_cmp, zt_ifn, zt_dup, zt_du2, zt_pop, zt_gtI, zt_gtR, zt_ptI, zt_ptZ, zt_ptR, zt_xld, zt_rld, zt_ias, zt_zas, zt_ras, zt_len, zt_irt, zt_zrt, zt_art, zt_vrt, zt_cal, zt_cav, zt_cai, zt_cas, zt_dfl, zt_oin, zt_nwa, zt_nwo, zs_args, zs_rv, zs_fits, zs_c1, Value.category, List.getElem?_cons_zero, List.getElem?_cons_succ, List.set_cons_zero, List.set_cons_succ, List.length_nil, List.length_cons, beq_self_eq_true, Bool.and_self, Bool.and_true, true_and, and_true, Nat.add_zero, Nat.zero_add, Nat.le_refl, Nat.zero_le, Nat.reduceAdd, Nat.reduceLeDiff, Option.toList_some, Option.toList_none, List.nil_append, List.cons_append, zb_0, zb_1, zb_i0, zb_i1, zb_ij, ne_eq, Classical.not_not, zx_n_pI, zx_n_pR, zx_n_pF, zx_n_nw, zx_K_pI, zx_K_pR, zx_K_pF, zx_R_pI, zx_R_pF, zx_I_pR, zx_I_eq, zx_I_ne, zx_I_ek, zx_R_eq, zx_R_ne, zx_R_ek, nI_clamp, zn_in, nI_add, zn_mul, nI_leI, nI_ltI, nI_eq, reduceIte, Nat.reduceLT, Nat.reduceMul, Nat.reducePow, zup_at, zvp_at, zn_z, zn_o, eq_self, or_true, true_or, or_false, false_or, zb_0, zb_1, zb_ik, zn_m, zn_rm, zn_sub, zn_div, not_false_eq_true, not_true_eq_false, forall_const, false_implies, implies_true, and_self, Bool.false_eq_true, Nat.reduceEqDiff, false_and, and_false, Nat.reduceSub, s1, s2, s9, hpl, hw0]
  generalize hτ : zs_pR σ (v + 1) pl (some w0) = τ at *
  have tK : zs_K τ = zs_K σ := by rw [← hτ]; rfl
  have tI : zs_I τ = zs_I σ := by rw [← hτ]; rfl
  have tR : ∀ x q, ¬ x = v + 1 → zs_R τ x q = zs_R σ x q := fun x q hx => by rw [← hτ, zx_R_ne _ _ _ _ hx]
  have hτs : crp τ v P := crp_of tK (fun x q hx => tR x q (by rcases hx with z | z | ⟨p, _, z⟩ <;> omega)) hs'
  have hz := zx_for (body := zb_Rp_learn_7 Q) (c := 0) (s := 0) (fun _ => [some (.ref v), some (.int (nI pl)), some (.ref w0)]) (fun q => zs_pI (capl τ v n (ccat e L s0 q)) v 1 (nI (s0 + q))) m 0 ?_ ?_ (Nat.zero_le _)
  · have e0 : zs_pI (capl τ v n (ccat e L s0 0)) v 1 (nI (s0 + 0)) = τ := by
      show zs_pI (capl τ v n []) v 1 (nI s0) = τ
      rw [capl_nil τ v n (by rw [tI]; exact hn), zs_pI_same τ v 1 _ (by rw [tI]; exact hs0)]
    rw [e0] at hz
    exact hz
  · intro q _ hq K hK
    obtain ⟨k1, k2, k3, k4, k5, k6, k7⟩ := hk q hq
    have f1 : ¬ 40 ≤ s0 + q := by omega
    have f2 : s0 + q < 40 := by omega
    have hle := ccat_le e L s0 (show q + 1 ≤ m by omega)
    have c1 : zs_R (zs_pI (capl τ v n (ccat e L s0 q)) v 1 (nI (s0 + q))) v 0 = some (v + 1) := by rw [zx_R_pI, capl_R, if_neg (by omega)]; exact hτs.2.1
    have c2 : zs_R (zs_pI (capl τ v n (ccat e L s0 q)) v 1 (nI (s0 + q))) (v + 1) (s0 + q) = some (w (s0 + q)) := by rw [zx_R_pI, capl_R, if_neg (by omega)]; exact k1
    have hcr : crp (zs_pI (capl τ v n (ccat e L s0 q)) v 1 (nI (s0 + q))) v P := crp_of (σ := τ) rfl (fun x y hx => by rw [zx_R_pI, capl_R, if_neg (by rcases hx with z | z | ⟨p, _, z⟩ <;> omega)]) hτs
    have hcn : zs_I (zs_pI (capl τ v n (ccat e L s0 q)) v 1 (nI (s0 + q))) v 3 = nI (n + (ccat e L s0 q).length) := by rw [zx_I_ek _ _ _ _ _ (by decide), capl_I, if_pos ⟨rfl, rfl⟩]
    have hcs : csl (zs_pI (capl τ v n (ccat e L s0 q)) v 1 (nI (s0 + q))) (w (s0 + q)) (e (s0 + q)) (o (s0 + q)) (L (s0 + q)) := csl_of (by rw [zx_K_pI, capl_K, tK]) (by rw [zx_I_ne _ _ _ _ k3, capl_I, if_neg (fun z => k3 z.1), tI]) (by rw [zx_R_pI, capl_R, if_neg (fun z => k4 z.1), tR _ _ k6]) (fun i => by rw [zx_R_pI, capl_R, if_neg (fun z => k5 z.1), tR _ _ k7]) k2
    have kk1 : zs_K τ v = (3, 0) := hτs.1
    have kk2 : zs_K τ (v + 1) = (115, 40) := hτs.2.2.2.2.2.2.2.2.1
    simp (disch := omega) only [ze_Rp_learn_0, ze_Rp_learn_7, ze_Rp_learn_19, ze_Rp_learn_31, ze_Rp_learn_57, zt_ild, zt_ald, zt_ist, zt_ast, zt_inc, zt_psh, zt_nul, zt_bin, zt_div, zt_if, zt_cmp, zt_ifn, zt_dup, zt_du2, zt_pop, zt_gtI, zt_gtR, zt_ptI, zt_ptZ, zt_ptR, zt_xld, zt_rld, zt_ias, zt_zas, zt_ras, zt_len, zt_irt, zt_zrt, zt_art, zt_vrt, zt_cal, zt_cav, zt_cai, zt_cas, zt_dfl, zt_oin, zt_nwa, zt_nwo, zs_args, zs_rv, zs_fits, zs_c1, Value.category, List.getElem?_cons_zero, List.getElem?_cons_succ, List.set_cons_zero, List.set_cons_succ, List.length_nil, List.length_cons, beq_self_eq_true, Bool.and_self, Bool.and_true, true_and, and_true, Nat.add_zero, Nat.zero_add, Nat.le_refl, Nat.zero_le, Nat.reduceAdd, Nat.reduceLeDiff, Option.toList_some, Option.toList_none, List.nil_append, List.cons_append, zb_0, zb_1, zb_i0, zb_i1, zb_ij, ne_eq, Classical.not_not, zx_n_pI, zx_n_pR, zx_n_pF, zx_n_nw, zx_K_pI, zx_K_pR, zx_K_pF, zx_R_pI, zx_R_pF, zx_I_pR, zx_I_eq, zx_I_ne, zx_I_ek, zx_R_eq, zx_R_ne, zx_R_ek, nI_clamp, zn_in, nI_add, zn_mul, nI_leI, nI_ltI, nI_eq, reduceIte, Nat.reduceLT, Nat.reduceMul, Nat.reducePow, zup_at, zvp_at, zn_z, zn_o, eq_self, or_true, true_or, or_false, false_or, zb_0, zb_1, zb_ik, zn_m, zn_rm, zn_sub, zn_div, not_false_eq_true, not_true_eq_false, forall_const, false_implies, implies_true, and_self, Bool.false_eq_true, Nat.reduceEqDiff, false_and, and_false, Nat.reduceSub, capl_K, kk1, kk2, c1, c2, f1, f2]
    refine cl_append v P (n + (ccat e L s0 q).length) (w (s0 + q)) (e (s0 + q)) (o (s0 + q)) (L (s0 + q)) _ _ hcr hcn hcs (fun z => ?_) ⟨k3, k5, k4⟩ ?_
    · have : (ccat e L s0 (q + 1)).length = (ccat e L s0 q).length + (L (s0 + q)).length := by
        show (ccat e L s0 q ++ _).length = _
        rw [if_pos z, List.length_append]
      omega
    · have goal : ∀ X, X = (if e (s0 + q) = 0 then capl (zs_pI (capl τ v n (ccat e L s0 q)) v 1 (nI (s0 + q))) v (n + (ccat e L s0 q).length) (L (s0 + q)) else zs_pI (capl τ v n (ccat e L s0 q)) v 1 (nI (s0 + q))) → zs_K X v = (3, 0) ∧ zs_I X v 1 = nI (s0 + q) ∧ zs_pI X v 1 (nI (s0 + q + 1)) = zs_pI (capl τ v n (ccat e L s0 (q + 1))) v 1 (nI (s0 + (q + 1))) := by
        rintro X rfl
        by_cases ge : e (s0 + q) = 0
        · rw [if_pos ge]
          refine ⟨kk1, by rw [capl_I, if_neg (by omega), zx_I_eq], ?_⟩
          have hc : ccat e L s0 (q + 1) = ccat e L s0 q ++ L (s0 + q) := by show ccat e L s0 q ++ _ = _; rw [if_pos ge]
          rw [hc, ← capl_capl]
          refine zs_ext rfl rfl (fun x y => ?_) (fun x y => ?_)
          · rw [zx_I_pI, zx_I_pI, capl_I, capl_I, zx_I_pI]
            by_cases g1 : x = v ∧ y = 1
            · rw [if_pos g1, if_pos g1]; rfl
            · rw [if_neg g1, if_neg g1, if_neg g1]
          · rw [zx_R_pI, zx_R_pI, capl_R, capl_R, zx_R_pI]
        · rw [if_neg ge]
          refine ⟨kk1, by rw [zx_I_eq], ?_⟩
          have hc : ccat e L s0 (q + 1) = ccat e L s0 q := by show ccat e L s0 q ++ _ = _; rw [if_neg ge, List.append_nil]
          rw [hc]
          refine zs_ext rfl rfl (fun x y => ?_) (fun x y => rfl)
          rw [zx_I_pI, zx_I_pI, zx_I_pI]
          by_cases g1 : x = v ∧ y = 1
          · rw [if_pos g1, if_pos g1]; rfl
          · rw [if_neg g1, if_neg g1, if_neg g1]
      obtain ⟨g1, g2, g3⟩ := goal _ rfl
      generalize (if e (s0 + q) = 0 then capl (zs_pI (capl τ v n (ccat e L s0 q)) v 1 (nI (s0 + q))) v (n + (ccat e L s0 q).length) (L (s0 + q)) else zs_pI (capl τ v n (ccat e L s0 q)) v 1 (nI (s0 + q))) = X at g1 g2 g3 ⊢
      simp (disch := omega) only [zt_ild, zt_ald, zt_ist, zt_ast, zt_inc, zt_psh, zt_nul, zt_bin, zt_div, zt_if, zt_cmp, zt_ifn, zt_dup, zt_du2, zt_pop, zt_gtI, zt_gtR, zt_ptI, zt_ptZ, zt_ptR, zt_xld, zt_rld, zt_ias, zt_zas, zt_ras, zt_len, zt_irt, zt_zrt, zt_art, zt_vrt, zt_cal, zt_cav, zt_cai, zt_cas, zt_dfl, zt_oin, zt_nwa, zt_nwo, zs_args, zs_rv, zs_fits, zs_c1, Value.category, List.getElem?_cons_zero, List.getElem?_cons_succ, List.set_cons_zero, List.set_cons_succ, List.length_nil, List.length_cons, beq_self_eq_true, Bool.and_self, Bool.and_true, true_and, and_true, Nat.add_zero, Nat.zero_add, Nat.le_refl, Nat.zero_le, Nat.reduceAdd, Nat.reduceLeDiff, Option.toList_some, Option.toList_none, List.nil_append, List.cons_append, zb_0, zb_1, zb_i0, zb_i1, zb_ij, ne_eq, Classical.not_not, zx_n_pI, zx_n_pR, zx_n_pF, zx_n_nw, zx_K_pI, zx_K_pR, zx_K_pF, zx_R_pI, zx_R_pF, zx_I_pR, zx_I_eq, zx_I_ne, zx_I_ek, zx_R_eq, zx_R_ne, zx_R_ek, nI_clamp, zn_in, nI_add, zn_mul, nI_leI, nI_ltI, nI_eq, reduceIte, Nat.reduceLT, Nat.reduceMul, Nat.reducePow, zup_at, zvp_at, zn_z, zn_o, eq_self, or_true, true_or, or_false, false_or, zb_0, zb_1, zb_ik, zn_m, zn_rm, zn_sub, zn_div, not_false_eq_true, not_true_eq_false, forall_const, false_implies, implies_true, and_self, Bool.false_eq_true, Nat.reduceEqDiff, false_and, and_false, Nat.reduceSub, g1, g2, g3]
      exact hK
  · intro K
    have kk1 : zs_K τ v = (3, 0) := hτs.1
    have kk2 : zs_K τ (v + 1) = (115, 40) := hτs.2.2.2.2.2.2.2.2.1
    have c1 : zs_R (capl τ v n (ccat e L s0 m)) v 0 = some (v + 1) := by rw [capl_R, if_neg (by omega)]; exact hτs.2.1
    by_cases gm : s0 + m = 40
    · have f1 : 40 ≤ s0 + m := by omega
      simp (disch := omega) only [ze_Rp_learn_0, ze_Rp_learn_7, ze_Rp_learn_19, ze_Rp_learn_31, ze_Rp_learn_57, zt_ild, zt_ald, zt_ist, zt_ast, zt_inc, zt_psh, zt_nul, zt_bin, zt_div, zt_if, zt_cmp, zt_ifn, zt_dup, zt_du2, zt_pop, zt_gtI, zt_gtR, zt_ptI, zt_ptZ, zt_ptR, zt_xld, zt_rld, zt_ias, zt_zas, zt_ras, zt_len, zt_irt, zt_zrt, zt_art, zt_vrt, zt_cal, zt_cav, zt_cai, zt_cas, zt_dfl, zt_oin, zt_nwa, zt_nwo, zs_args, zs_rv, zs_fits, zs_c1, Value.category, List.getElem?_cons_zero, List.getElem?_cons_succ, List.set_cons_zero, List.set_cons_succ, List.length_nil, List.length_cons, beq_self_eq_true, Bool.and_self, Bool.and_true, true_and, and_true, Nat.add_zero, Nat.zero_add, Nat.le_refl, Nat.zero_le, Nat.reduceAdd, Nat.reduceLeDiff, Option.toList_some, Option.toList_none, List.nil_append, List.cons_append, zb_0, zb_1, zb_i0, zb_i1, zb_ij, ne_eq, Classical.not_not, zx_n_pI, zx_n_pR, zx_n_pF, zx_n_nw, zx_K_pI, zx_K_pR, zx_K_pF, zx_R_pI, zx_R_pF, zx_I_pR, zx_I_eq, zx_I_ne, zx_I_ek, zx_R_eq, zx_R_ne, zx_R_ek, nI_clamp, zn_in, nI_add, zn_mul, nI_leI, nI_ltI, nI_eq, reduceIte, Nat.reduceLT, Nat.reduceMul, Nat.reducePow, zup_at, zvp_at, zn_z, zn_o, eq_self, or_true, true_or, or_false, false_or, zb_0, zb_1, zb_ik, zn_m, zn_rm, zn_sub, zn_div, not_false_eq_true, not_true_eq_false, forall_const, false_implies, implies_true, and_self, Bool.false_eq_true, Nat.reduceEqDiff, false_and, and_false, Nat.reduceSub, capl_K, kk1, kk2, c1, f1]
      exact h
    · have f1 : ¬ 40 ≤ s0 + m := by omega
      have f2 : s0 + m < 40 := by omega
      have c2 : zs_R (capl τ v n (ccat e L s0 m)) (v + 1) (s0 + m) = none := by rw [capl_R, if_neg (by omega)]; exact hend.resolve_left gm
      simp (disch := omega) only [ze_Rp_learn_0, ze_Rp_learn_7, ze_Rp_learn_19, ze_Rp_learn_31, ze_Rp_learn_57, zt_ild, zt_ald, zt_ist, zt_ast, zt_inc, zt_psh, zt_nul, zt_bin, zt_div, zt_if, zt_cmp, zt_ifn, zt_dup, zt_du2, zt_pop, zt_gtI, zt_gtR, zt_ptI, zt_ptZ, zt_ptR, zt_xld, zt_rld, zt_ias, zt_zas, zt_ras, zt_len, zt_irt, zt_zrt, zt_art, zt_vrt, zt_cal, zt_cav, zt_cai, zt_cas, zt_dfl, zt_oin, zt_nwa, zt_nwo, zs_args, zs_rv, zs_fits, zs_c1, Value.category, List.getElem?_cons_zero, List.getElem?_cons_succ, List.set_cons_zero, List.set_cons_succ, List.length_nil, List.length_cons, beq_self_eq_true, Bool.and_self, Bool.and_true, true_and, and_true, Nat.add_zero, Nat.zero_add, Nat.le_refl, Nat.zero_le, Nat.reduceAdd, Nat.reduceLeDiff, Option.toList_some, Option.toList_none, List.nil_append, List.cons_append, zb_0, zb_1, zb_i0, zb_i1, zb_ij, ne_eq, Classical.not_not, zx_n_pI, zx_n_pR, zx_n_pF, zx_n_nw, zx_K_pI, zx_K_pR, zx_K_pF, zx_R_pI, zx_R_pF, zx_I_pR, zx_I_eq, zx_I_ne, zx_I_ek, zx_R_eq, zx_R_ne, zx_R_ek, nI_clamp, zn_in, nI_add, zn_mul, nI_leI, nI_ltI, nI_eq, reduceIte, Nat.reduceLT, Nat.reduceMul, Nat.reducePow, zup_at, zvp_at, zn_z, zn_o, eq_self, or_true, true_or, or_false, false_or, zb_0, zb_1, zb_ik, zn_m, zn_rm, zn_sub, zn_div, not_false_eq_true, not_true_eq_false, forall_const, false_implies, implies_true, and_self, Bool.false_eq_true, Nat.reduceEqDiff, false_and, and_false, Nat.reduceSub, capl_K, kk1, kk2, c1, c2, f1, f2]
      exact h
