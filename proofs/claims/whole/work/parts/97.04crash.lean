/-! Crashes. -/
theorem nI_m1 {e : Nat} (h : e < 2 ^ 31) : ¬ nI e = -1 := fun q => by
  have := nI_pos h
  rw [q] at this
  exact this (by decide)
theorem nI_m2 {e : Nat} (h : e < 2 ^ 31) : ¬ nI e = -2 := fun q => by
  have := nI_pos h
  rw [q] at this
  exact this (by decide)
theorem rel_Ci {P M k : Nat} {X : Nat → Nat → Nat} {C : Nat → Nat} {W : Nat → Nat → Nat} {ρ : zs_S} {N : Nat → Nat → Nat} {V : Nat → Nat → Int32} (hi : inv P k X N V) (hr : rel P M C W ρ N V) {t u : Nat} (ht : t < N 0 2) (hu : u < N 0 2) (h : C t = C u) : t = u := by
  have a := (hr.2.2.2.1 t ht).2.2.2.2.1
  have b := (hr.2.2.2.1 u hu).2.2.2.2.1
  rw [h, b] at a
  have := hi.2.1.1
  exact ((nI_eq (by omega) (by omega)).mp a).symm
theorem rel_CW {P M : Nat} {C : Nat → Nat} {W : Nat → Nat → Nat} {ρ : zs_S} {N : Nat → Nat → Nat} {V : Nat → Nat → Int32} (hr : rel P M C W ρ N V) {t s e : Nat} (ht : t < N 0 2) (hs : s < 2) (he : e < N 8 s) : ¬ C t = W s e ∧ ¬ C t = W s e + 1 ∧ ¬ C t = W s e - 1 := by
  have a := (hr.2.2.2.1 t ht).2.2.2.1
  have b := (hr.2.2.2.2.1 s hs).2 e he
  refine ⟨fun q => ?_, fun q => ?_, fun q => ?_⟩
  · rw [q, b.2.2.2.1] at a; exact absurd a (by decide)
  · rw [q, b.2.2.2.2.1] at a; exact absurd a (by decide)
  · rw [q, b.2.2.2.2.2.1] at a
    have := congrArg Prod.fst a
    exact absurd this (by decide : ¬ (116 : Nat) = 6)
theorem clb_n (σ : zs_S) (f : Nat → Nat) : ∀ i, zs_n (clb σ f i) = zs_n σ
  | 0 => rfl
  | i + 1 => by rw [clb, zx_n_pI]; exact clb_n σ f i
theorem agr_clb {τ ρ : zs_S} {w : Nat} (h : agr τ ρ w) (f : Nat → Nat) : ∀ c, (∀ i, i < c → ¬ w = f i) → agr (clb τ f c) ρ w
  | 0, _ => h
  | c + 1, hc => by
    rw [clb]
    exact agr_pI (agr_clb h f c (fun i hi => hc i (by omega))) _ _ _ (hc c (by omega))
theorem clb_8 (σ : zs_S) (f : Nat → Nat) : ∀ c i, i < c → zs_I (clb σ f c) (f i) 8 = nI 1
  | 0, i, hi => absurd hi (Nat.not_lt_zero i)
  | c + 1, i, hi => by
    rw [clb, zx_I_pI]
    by_cases e : f i = f c
    · rw [if_pos ⟨e, rfl⟩]
    · rw [if_neg (fun z => e z.1)]
      by_cases e2 : i = c
      · subst e2; exact absurd rfl e
      · exact clb_8 σ f c i (by omega)
theorem mbl_mem {N : Nat → Nat → Nat} {V : Nat → Nat → Int32} {s t : Nat} : t ∈ mbl N V s ↔ t < N 0 2 ∧ N 6 t = s ∧ V 7 t = -1 := by
  unfold mbl
  rw [List.mem_filter, List.mem_range, decide_eq_true_eq]
theorem mep_7 (N : Nat → Nat → Nat) (V : Nat → Nat → Int32) (s T : Nat) (y : Int32) (t : Nat) : mep N V s T y 7 t = if t < T ∧ N 6 t = s ∧ V 7 t = -1 then y else V 7 t := by
  rw [mep_at]
  by_cases g : t < T ∧ N 6 t = s ∧ V 7 t = -1
  · rw [if_pos ⟨rfl, g⟩, if_pos g]
  · rw [if_neg (fun z => g z.2), if_neg g]
theorem mep_o (N : Nat → Nat → Nat) (V : Nat → Nat → Int32) (s T : Nat) (y : Int32) {j : Nat} (hj : ¬ j = 7) (q : Nat) : mep N V s T y j q = V j q := by
  rw [mep_at, if_neg (fun z => hj z.1)]
theorem lose_bat (N : Nat → Nat → Nat) (V : Nat → Nat → Int32) (s k : Nat) (hk : k < 2 ^ 31) : mbat N (mep N V s (N 0 2) (-2)) k (N 0 2) = mbat N V k (N 0 2) := by
  refine mbat_congr 0 (fun t ht => ?_) (fun t a b => absurd b (by omega))
  rw [mep_7]
  split
  · rename_i g
    rw [g.2.2]
    have := nI_m1 (e := k / 2) (by omega)
    have := nI_m2 (e := k / 2) (by omega)
    constructor
    · intro z; exact absurd z.1.symm (by assumption)
    · intro z; exact absurd z.1.symm (by assumption)
  · exact Iff.rfl
theorem lose_line (N : Nat → Nat → Nat) (V : Nat → Nat → Int32) (s r : Nat) : mline N (mep N V s (N 0 2) (-2)) r = mline N V r := mline_congr (fun _ _ => rfl) (fun k hk _ => mpart_congr rfl (lose_bat N V s k (by omega)))
theorem lose_mbl (N : Nat → Nat → Nat) (V : Nat → Nat → Int32) (s s' : Nat) : mbl N (mep N V s (N 0 2) (-2)) s' = if s' = s then [] else mbl N V s' := by
  split
  · rename_i e
    subst e
    refine List.filter_eq_nil_iff.mpr (fun t ht => ?_)
    rw [mep_7, decide_eq_true_eq]
    have ht := List.mem_range.mp ht
    by_cases g : t < N 0 2 ∧ N 6 t = s' ∧ V 7 t = -1
    · rw [if_pos g]; exact fun z => absurd z.2 (by decide)
    · rw [if_neg g]; exact fun z => g ⟨ht, z⟩
  · rename_i e
    refine List.filter_congr (fun t ht => ?_)
    rw [mep_7]
    split
    · rename_i g
      have : ¬ N 6 t = s' := by omega
      simp [this]
    · rfl
theorem lose_inv {P k : Nat} {X N : Nat → Nat → Nat} {V : Nat → Nat → Int32} (h : inv P k X N V) (s : Nat) : inv P k X N (mep N V s (N 0 2) (-2)) := by
  obtain ⟨ha, hb, hc, hd, he⟩ := h
  refine ⟨ha, ⟨hb.1, fun t ht => ?_, fun s' hs => ?_⟩, hc, hd, fun r hr => ?_⟩
  · have it := hb.2.1 t ht
    refine ⟨it.1, it.2.1, ?_, it.2.2.2.1, ?_⟩
    · rw [mep_o _ _ _ _ _ (by omega), mep_o _ _ _ _ _ (by omega)]; exact it.2.2.1
    · rw [mep_7]
      split
      · exact Or.inr (Or.inl rfl)
      · exact it.2.2.2.2
  · rw [lose_mbl]
    split
    · exact Nat.zero_le _
    · exact hb.2.2 s' hs
  · exact iE_of (he r hr) hb.1 ha.2.2.2.1 (lose_line N V s r) (fun _ _ q => q) (fun _ _ _ => rfl)
theorem lose_rel {P M k : Nat} {X : Nat → Nat → Nat} {C : Nat → Nat} {W : Nat → Nat → Nat} {ρ : zs_S} {N : Nat → Nat → Nat} {V : Nat → Nat → Int32} (hi : inv P k X N V) (hr : rel P M C W ρ N V) {s : Nat} (h2 : s < 2) : rel P M C W (zs_pI (clb ρ (fun i => C ((mbl N V s)[i]?.getD 0)) (mbl N V s).length) (18 + 3 * s) 1 (nI 0)) N (mep N V s (N 0 2) (-2)) := by
  have hP := hi.1.2.2.2.1
  have hb4 := inv_b4 hi
  have fi : ∀ i, i < (mbl N V s).length → ∃ t, (mbl N V s)[i]?.getD 0 = t ∧ t ∈ mbl N V s := fun i hi => ⟨_, by rw [List.getElem?_eq_getElem hi]; rfl, List.getElem_mem hi⟩
  have hr' := hr
  obtain ⟨⟨h1, hM, hn⟩, h3, h4, h5, h6, h7, h8, h9, h10⟩ := hr
  have ag : ∀ w, ¬ w = 18 + 3 * s → (∀ t, t ∈ mbl N V s → ¬ w = C t) → agr (zs_pI (clb ρ (fun i => C ((mbl N V s)[i]?.getD 0)) (mbl N V s).length) (18 + 3 * s) 1 (nI 0)) ρ w := by
    intro w hw hc
    refine agr_pI (agr_clb (agr_rfl ρ w) _ _ (fun i hi => ?_)) _ _ _ hw
    obtain ⟨t, e, m⟩ := fi i hi
    rw [e]
    exact hc t m
  have lo : ∀ w, w < M → ∀ t, t ∈ mbl N V s → ¬ w = C t := by
    intro w hw t ht
    have := (h5 t (mbl_mem.mp ht).1).2.1
    omega
  have nn : zs_n (zs_pI (clb ρ (fun i => C ((mbl N V s)[i]?.getD 0)) (mbl N V s).length) (18 + 3 * s) 1 (nI 0)) = zs_n ρ := by rw [zx_n_pI, clb_n]
  have KK : zs_K (zs_pI (clb ρ (fun i => C ((mbl N V s)[i]?.getD 0)) (mbl N V s).length) (18 + 3 * s) 1 (nI 0)) = zs_K ρ := by rw [zx_K_pI, clb_K]
  have RR : zs_R (zs_pI (clb ρ (fun i => C ((mbl N V s)[i]?.getD 0)) (mbl N V s).length) (18 + 3 * s) 1 (nI 0)) = zs_R ρ := by rw [zx_R_pI, clb_R]
  have I18 : ∀ q, ¬ q = 1 → zs_I (zs_pI (clb ρ (fun i => C ((mbl N V s)[i]?.getD 0)) (mbl N V s).length) (18 + 3 * s) 1 (nI 0)) (18 + 3 * s) q = zs_I ρ (18 + 3 * s) q := by
    intro q hq
    rw [zx_I_ek _ _ _ _ _ hq]
    exact (agr_clb (agr_rfl ρ (18 + 3 * s)) _ _ (fun i hi => by
      obtain ⟨t, e, m⟩ := fi i hi
      rw [e]
      exact lo _ (by omega) t m)).2.1 q
  have IC : ∀ t, t < N 0 2 → ∀ q, ¬ q = 8 → zs_I (zs_pI (clb ρ (fun i => C ((mbl N V s)[i]?.getD 0)) (mbl N V s).length) (18 + 3 * s) 1 (nI 0)) (C t) q = zs_I ρ (C t) q := by
    intro t ht q hq
    have := (h5 t ht).2.1
    rw [zx_I_ne _ _ _ _ (by omega), clb_I _ _ _ _ hq]
  have hN := hi.2.1.1
  generalize hτ : zs_pI (clb ρ (fun i => C ((mbl N V s)[i]?.getD 0)) (mbl N V s).length) (18 + 3 * s) 1 (nI 0) = τ at *
  refine ⟨⟨csb_of (fun w _ => by rw [KK]) ((ag 0 (by omega) (lo 0 (by omega))).2.1 0) (fun w q _ => by rw [RR]) h1, hM, by omega⟩, cdn_of h3 (ag 1 (by omega) (lo 1 (by omega))) (fun _ _ => rfl), by rw [(ag 0 (by omega) (lo 0 (by omega))).2.1]; exact h4, fun t ht => ?_, fun s' hs => ⟨?_, fun e he => ?_⟩, h7, fun l hl => rL_of (h8 l hl) (ag _ (by omega) (lo _ (by omega))) (ag _ (by omega) (lo _ (by omega))) (fun _ => rfl) (fun _ => rfl), cpl_of h9 (ag 3 (by omega) (lo 3 (by omega))) (ag 4 (by omega) (lo 4 (by omega))) (ag 5 (by omega) (lo 5 (by omega))), fun r hr => ⟨?_, fun p hp => ?_⟩⟩
  · have tt := h5 t ht
    by_cases g : t ∈ mbl N V s
    · have m := mbl_mem.mp g
      obtain ⟨i, hi1⟩ := List.mem_iff_getElem?.mp g
      have hil := (List.getElem?_eq_some_iff.mp hi1).1
      have v7 : mep N V s (N 0 2) (-2) 7 t = -2 := by rw [mep_7, if_pos ⟨ht, m.2.1, m.2.2⟩]
      have hR := mR_congr (N := N) (N' := N) (V := V) (V' := mep N V s (N 0 2) (-2)) (t := t) rfl rfl (mep_o _ _ _ _ _ (by omega) _)
      have hW := mW_congr (N := N) (N' := N) (V := V) (V' := mep N V s (N 0 2) (-2)) (t := t) rfl rfl (mep_o _ _ _ _ _ (by omega) _) (mep_o _ _ _ _ _ (by omega) _)
      unfold rT
      rw [RR, KK, nn, IC t ht 0 (by omega), IC t ht 1 (by omega), IC t ht 2 (by omega), IC t ht 3 (by omega), IC t ht 4 (by omega), IC t ht 5 (by omega), IC t ht 6 (by omega), v7, hR, hW, mep_o _ _ _ _ _ (by omega), mep_o _ _ _ _ _ (by omega)]
      refine ⟨tt.1, tt.2.1, tt.2.2.1, tt.2.2.2.1, tt.2.2.2.2.1, tt.2.2.2.2.2.1, tt.2.2.2.2.2.2.1, tt.2.2.2.2.2.2.2.1, tt.2.2.2.2.2.2.2.2.1, tt.2.2.2.2.2.2.2.2.2.1, tt.2.2.2.2.2.2.2.2.2.2.1, ?_, ?_⟩
      · rw [if_pos rfl, ← hτ, zx_I_ne _ _ _ _ (by have := tt.2.1; omega)]
        have := clb_8 ρ (fun i => C ((mbl N V s)[i]?.getD 0)) (mbl N V s).length i hil
        rw [hi1] at this
        exact this
      · rw [if_pos (Or.inr rfl), tt.2.2.2.2.2.2.2.2.2.2.2.2, if_pos (Or.inl m.2.2)]
    · have := tt.2.1
      refine rT_of tt (by omega) (by rw [RR]) (ag _ (by omega) (fun u hu z => ?_)) rfl rfl rfl (mep_o _ _ _ _ _ (by omega) _) (mep_o _ _ _ _ _ (by omega) _) (by rw [mep_7, if_neg (fun z => g (mbl_mem.mpr z))]) (Or.inl rfl)
      have := rel_Ci hi hr' ht (mbl_mem.mp hu).1 z
      subst this
      exact g hu
  · by_cases e : s' = s
    · subst e
      have q := (h6 s' hs).1
      unfold rQ
      rw [lose_mbl, if_pos rfl, I18 3 (by omega), I18 4 (by omega)]
      refine ⟨by rw [← hτ, zx_I_eq]; rfl, q.2.1, q.2.2.1, fun i t z => by simp at z⟩
    · exact rQ_of (h6 s' hs).1 (ag _ (by omega) (lo _ (by omega))) (ag _ (by omega) (lo _ (by omega))) (by rw [lose_mbl, if_neg e]) rfl rfl
  · have ss := (h6 s' hs).2 e he
    have := ss.2.1
    have cw : ∀ t, t ∈ mbl N V s → _ := fun t ht => rel_CW hr' (mbl_mem.mp ht).1 hs he
    refine rS_of ss (by omega) (by rw [RR]) (ag _ (by omega) (fun t ht z => (cw t ht).1 z.symm)) (ag _ (by omega) (fun t ht z => (cw t ht).2.1 z.symm)) (ag _ (by omega) (fun t ht z => (cw t ht).2.2 z.symm)) (lose_bat N V s _ ?_) rfl rfl rfl
    have := (hi.2.2.1.1 s' hs).2.2.1
    omega
  · have hv := crv_le (P := P) (r := r) hP hr
    exact rR_of (h10 r hr).1 (fun j _ => ag _ (by omega) (lo _ (by omega))) (lose_line N V s r) rfl (fun _ => rfl) (fun _ => rfl) rfl (fun _ _ => mep_o _ _ _ _ _ (by omega) _) (fun _ _ => mep_o _ _ _ _ _ (by omega) _) (fun _ _ => mep_o _ _ _ _ _ (by omega) _) (fun _ _ => mep_o _ _ _ _ _ (by omega) _)
  · have hv := crv_le (P := P) (r := r) hP hr
    exact rP_of ((h10 r hr).2 p hp) (fun j _ => ag _ (by omega) (lo _ (by omega))) (mwin_congr [] (by rw [List.append_nil]; exact lose_line N V s r) rfl rfl (hb4 r p hr hp) (fun _ _ => rfl)) rfl (fun _ => rfl) (fun _ => rfl)
theorem mtake_zup (N : Nat → Nat → Nat) (x d i : Nat) : mtake (zup N 1 x d) i = zup (mtake N i) 1 x d := by
  have e : zup N 1 x d 0 16 = N 0 16 := by rw [zup_at, if_neg (by omega)]
  funext j q
  rw [zup_at, mtake_at, mtake_at, e, zup_at, zup_at]
  by_cases g : j = 1 ∧ q = x
  · rw [if_pos g, if_neg (by omega), if_neg (by omega), if_pos g]
  · rw [if_neg g, if_neg g]
    by_cases g1 : (15 ≤ j ∧ j ≤ 19) ∧ i ≤ q ∧ q < N 0 16 - 1
    · rw [if_pos g1, if_pos g1, if_neg (by omega)]
    · rw [if_neg g1, if_neg g1]
theorem mrm_zup (r x d : Nat) : ∀ n N, mrm r n (zup N 1 x d) = zup (mrm r n N) 1 x d
  | 0, N => rfl
  | n + 1, N => by
    have e15 : zup N 1 x d 15 n = N 15 n := by rw [zup_at, if_neg (by omega)]
    have e17 : zup N 1 x d 17 n = N 17 n := by rw [zup_at, if_neg (by omega)]
    rw [mrm, mrm, e15, e17]
    split
    · rw [mtake_zup, mrm_zup]
    · rw [mrm_zup]
theorem mep_zup (N : Nat → Nat → Nat) (V : Nat → Nat → Int32) (x d s T : Nat) (y : Int32) : mep (zup N 1 x d) V s T y = mep N V s T y := by
  funext j q
  have e : zup N 1 x d 6 q = N 6 q := by rw [zup_at, if_neg (by omega)]
  rw [mep_at, mep_at, e]
theorem st_crash {P M k : Nat} {ρ : zs_S} {Q1 : zs_Q} (x : Int32) (h : st P M k ρ) (hQ : stq P M k (fun τ Q2 => zw_Md_crash [.ref M, .int x] τ Q2) Q1) : zw_SB_crash [.ref 0, .int x] ρ Q1 := by
  obtain ⟨X, C, W, N, V, hi, hr, hm⟩ := h
  have hu := inv_u hi
  have hM := rel_M hr
  have hM2 := hr.1.2.1
  by_cases g : ∃ n, n < 7 ∧ x = nI n ∧ N 1 n = 0
  · obtain ⟨n, hn, rfl, hup⟩ := g
    by_cases g3 : n < 3
    · rw [cl_crash_log P n (N 1) ρ Q1 hr.1.1 hr.2.1 g3 hup]
      refine hQ _ _ (fun Q2 h3 => ?_)
      have hm' := mdb_pI hm 1 n (nI 1) (by omega)
      refine ⟨N, V, hm', ?_⟩
      show zw_Md_crash [.ref M, .int (nI n)] (md M _ N V) Q2
      rw [mo_crash_log _ _ _ _ _ hi.1.1 n g3 hup]
      exact h3 _ (st_mk (inv_k (up_inv hi n 1 (by omega) (by omega))) (up_rel hi hr n 1 (by omega)))
    · by_cases g5 : n < 5
      · obtain ⟨s, rfl⟩ : ∃ s, n = 3 + s := ⟨n - 3, by omega⟩
        have h2 : s < 2 := by omega
        have hi1 := up_inv hi (3 + s) 1 (by omega) (by omega)
        have hr1 := up_rel hi hr (3 + s) 1 (by omega)
        have hi2 := lose_inv hi1 s
        have hr2 := lose_rel hi1 hr1 h2
        have e1 : zup N 1 (3 + s) 1 0 2 = N 0 2 := by rw [zup_at, if_neg (by omega)]
        have e2 : mbl (zup N 1 (3 + s) 1) V s = mbl N V s := mbl_of e1 (fun q => by rw [zup_at, if_neg (by omega)]) (fun _ => rfl)
        rw [e1, mep_zup] at hi2 hr2
        rw [e2] at hr2
        have hm1 := mdb_pI hm 1 (3 + s) (nI 1) (by omega)
        have rq := (hr.2.2.2.2.1 s h2).1
        refine cl_crash_seq P s (N 1) ρ Q1 hr.1.1 hr.2.1 h2 hup (fun Q' hQ' => ?_)
        have cs := (hr1.1.1.2.2.2.2.2.2.2.2.2.2.2.2.2.2.2.1 s h2).2
        have e19 : 18 + 3 * s + 1 = 19 + 3 * s := by omega
        have cs1 := cs.2.1
        have cs3 := cs.2.2.2.1
        rw [e19] at cs1 cs3
        refine cl_loseBatch (18 + 3 * s) (19 + 3 * s) (mbl N V s).length (fun i => C ((mbl N V s)[i]?.getD 0)) _ Q' cs.1 cs1 cs3 (by rw [zx_I_ne _ _ _ _ (by omega)]; exact rq.1) (hi.2.1.2.2 s h2) (fun i hil => ?_) (hQ' _ (hQ _ _ (fun Q2 h3 => ?_)))
        · have e0 : (mbl N V s)[i]? = some (mbl N V s)[i] := List.getElem?_eq_getElem hil
          rw [e0]
          exact ⟨rq.2.2.2 i _ e0, (hr.2.2.2.1 _ (mbl_mem.mp (List.getElem_mem hil)).1).2.2.2.1⟩
        · have hm' : mdb M (zs_pI (clb (zs_pI ρ 1 (3 + s) (nI 1)) (fun i => C ((mbl N V s)[i]?.getD 0)) (mbl N V s).length) (18 + 3 * s) 1 (nI 0)) N V := by
            refine mdb_pI (mdb_of hm1 (fun w _ _ => by rw [clb_K]) (fun w q a b => ?_) (fun q => by rw [clb_R])) _ _ _ (by omega)
            refine (agr_clb (agr_rfl (zs_pI ρ 1 (3 + s) (nI 1)) w) (fun i => C ((mbl N V s)[i]?.getD 0)) (mbl N V s).length (fun i hil z => ?_)).2.1 q
            rw [List.getElem?_eq_getElem hil] at z
            have := (hr.2.2.2.1 _ (mbl_mem.mp (List.getElem_mem hil)).1).2.1
            simp only [Option.getD_some] at z
            omega
          refine ⟨N, V, hm', ?_⟩
          show zw_Md_crash [.ref M, .int (nI (3 + s))] (md M _ N V) Q2
          exact mo_crash_seq _ _ _ _ _ hi.1.1 s h2 hup hi.2.1.1 (h3 _ (st_mk (inv_k hi2) hr2))
      · obtain ⟨r, rfl⟩ : ∃ r, n = 5 + r := ⟨n - 5, by omega⟩
        have h2 : r < 2 := by omega
        have hr1 := up_rel hi hr (5 + r) 1 (by omega)
        have e1 : zup N 1 (5 + r) 1 0 16 = N 0 16 := by rw [zup_at, if_neg (by omega)]
        have hc1 := hr1.2.2.2.2.2.2.2.1
        have epl : mpl (zup N 1 (5 + r) 1) = mpl N := mpl_of e1 (fun i _ => ⟨mcode_of (fun m _ _ => by rw [zup_at, if_neg (by omega)]), by rw [zup_at, if_neg (by omega)]⟩)
        have hrm : mpl (mrm r (N 0 16) N) = (mpl N).filter (ckeep r) := by
          rw [mrm_mpl r (N 0 16) N (Nat.le_refl _) (fun i hil => ?_), List.take_of_length_le (by rw [mpl_len]; exact Nat.le_refl _), List.drop_of_length_le (by rw [mpl_len]; exact Nat.le_refl _), List.append_nil]
          have cc := inv_code hi hil
          unfold ckeep
          rw [decide_eq_false_iff_not, Classical.not_not, cc.1]
          constructor
          · intro z; exact ⟨z.1, by rw [(cc.2.2.2 z.1).1]; exact z.2⟩
          · intro z; exact ⟨z.1, by rw [(cc.2.2.2 z.1).1] at z; exact z.2⟩
        have hrm2 : mpl (zup (mrm r (N 0 16) N) 1 (5 + r) 1) = (mpl N).filter (ckeep r) := by
          rw [← hrm]
          exact mpl_of (by rw [zup_at, if_neg (by omega)]) (fun i _ => ⟨mcode_of (fun m _ _ => by rw [zup_at, if_neg (by omega)]), by rw [zup_at, if_neg (by omega)]⟩)
        have gn : nod (zup (mrm r (N 0 16) N) 1 (5 + r) 1) N := by
          intro j q a b c
          rw [zup_at, if_neg (by omega), mrm_o r q a c]
        have hi2 : inv P k X (zup (mrm r (N 0 16) N) 1 (5 + r) 1) V := by
          refine inv_dp hi gn (zh_up (mrm_lt r _ N hi.1.1) (by omega) 1 _) (fun y hy => ?_) ?_ ?_
          · rw [zup_at]; split
            · omega
            · rw [mrm_o r y (by omega) (by omega)]; exact hi.1.2.2.2.2 y hy
          · rw [zup_at, if_neg (by omega)]; exact mrm_u r _ N
          · refine mal_of (N := mrm r (N 0 16) N) (mal_mono (mal_rm r (N 0 16) N (Nat.le_refl _) (fun i a b => absurd b (by omega)) hi.2.2.2.1.2) ?_) (by rw [zup_at, if_neg (by omega)]) (fun j q _ _ => by rw [zup_at, if_neg (by omega)])
            rintro k' to a x w ⟨z, z2⟩
            have g' : ∀ j q, ¬ (15 ≤ j ∧ j ≤ 19) → ¬ j = 1 → ¬ (j = 0 ∧ q = 16) → zup (mrm r (N 0 16) N) 1 (5 + r) 1 j q = N j q := gn
            rcases z with ⟨a1, a2, a3, a4, a5, a6, a7, a8⟩ | ⟨a1, a2, a3, a4, a5, a6, a7⟩ | ⟨a1, a2, a3, a4, a5⟩ | ⟨a1, a2, a3, a4, a5, a6, a7⟩
            · exact Or.inl ⟨a1, a2, a3, by rw [g' 8 _ (by omega) (by omega) (by omega)]; exact a4, a5, a6, by rw [g' 9 _ (by omega) (by omega) (by omega)]; exact a7, a8⟩
            · exact Or.inr (Or.inl ⟨a1, a2, a3, by rw [g' 8 _ (by omega) (by omega) (by omega)]; exact a4, a5, a6, by rw [g' 9 _ (by omega) (by omega) (by omega)]; exact a7⟩)
            · exact Or.inr (Or.inr (Or.inl ⟨a1, a2, a3, by rw [g' 11 _ (by omega) (by omega) (by omega)]; exact a4, a5⟩))
            · refine Or.inr (Or.inr (Or.inr ⟨a1, a2, by rw [g' 0 2 (by omega) (by omega) (by omega)]; exact a3, by rw [g' 0 0 (by omega) (by omega) (by omega)]; exact a4, by rw [g' 0 0 (by omega) (by omega) (by omega)]; exact a5, a6, ?_⟩))
              rw [zup_at, if_neg (by omega), mrm_o r _ (by omega) (by omega)]
              exact a7
        have hm1 := mdb_pI hm 1 (5 + r) (nI 1) (by omega)
        refine cl_crash_rep P r (N 1) ρ Q1 hr.1.1 hr.2.1 h2 hup (fun Q' hQ' => ?_)
        rw [epl] at hc1
        refine cl_forget r (mpl N) _ Q' (hr1.1.1.2.2.2.2.2.2.2.2.2.2.2.2.2.1) h2 hc1 (by rw [mpl_len]; omega) (fun m hm => ?_) (fun τ t1 t2 t3 t4 t5 => hQ' _ (hQ _ _ (fun Q2 h3 => ?_)))
        · obtain ⟨i, hi3⟩ := List.mem_iff_getElem?.mp hm
          have hil := (List.getElem?_eq_some_iff.mp hi3).1
          rw [mpl_len] at hil
          rw [mpl_at N i hil] at hi3
          simp only [Option.some.injEq] at hi3
          rw [← hi3]
          exact (inv_code hi hil).2.1
        · have hm' : mdb M τ N V := mdb_of hm1 (fun w _ _ => by rw [t2]) (fun w q a b => t4 w q (by omega) (by omega) (by omega)) (fun q => by rw [t3])
          refine ⟨N, V, hm', ?_⟩
          show zw_Md_crash [.ref M, .int (nI (5 + r))] (md M _ N V) Q2
          refine mo_crash_rep _ _ _ _ _ hi.1.1 r h2 hup (by omega) (h3 _ ?_)
          rw [mrm_zup]
          refine st_mk (inv_k hi2) (rel_dp hi.1.2.2.2.1 (inv_b4 hi) hr gn ⟨t1, t2, t3, fun w q hw => by rw [t4 w q (by omega) (by omega) (by omega), zx_I_ne _ _ _ _ (by omega)]⟩ ?_ (by rw [hrm2]; exact t5))
          intro y hy
          rw [t4 1 y (by omega) (by omega) (by omega), zup_at, mrm_o r y (by omega) (by omega)]
          have := cdn_up hr.2.1 (5 + r) 1 (by omega) y hy
          rw [zup_at] at this
          exact this
  · rw [cl_crash_out P x (N 1) ρ Q1 hr.1.1 hr.2.1 g]
    refine hQ _ _ (fun Q2 h3 => ?_)
    refine ⟨N, V, hm, ?_⟩
    show zw_Md_crash [.ref M, .int x] (md M _ N V) Q2
    rw [mo_crash_out _ _ _ _ _ hi.1.1 x g]
    exact h3 _ (st_id hi hr)
